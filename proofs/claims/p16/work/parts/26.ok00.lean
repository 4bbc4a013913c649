set_option maxRecDepth 100000 in
set_option maxHeartbeats 4000000 in
theorem okJ0_charAt_5068e {l : Launch} {D : va_G} {tys : List (ClassId × FieldType)} {o : zO} {z : Nat} (E : zEnv tys) : zCodeOk l D vwCl tys o z (zXX o z) zTs zprog mJ0_charAt_5068e := by
  intro p e R s m args below meth c0 Q ws0 hbc hbs C pc sem h
  replace hbc : R.cells = 0 := hbc
  replace hbs : R.slots = 0 := hbs
  replace C : zCx p R s m args meth c0 D vwCl tys z (zXX o z) zTs RJ0 cJ0_charAt_5068e 2 "charAt" := C
  refine zRows_get (P := fun pc sem => zOp p l e R s m args below meth c0 Q D vwCl tys o z (zXX o z) zTs zprog ws0 2 cJ0_charAt_5068e (some .char) pc sem) (c := kJ0_charAt_5068e) ?_ h
  unfold kJ0_charAt_5068e
  exact (zrs_c (zr_s (zq_aload_n C (zda zDJ0_charAt_5068e 0 rfl rfl) rfl)
    (zr_s (zk_callT (n := 0) C zXX_ok zTs_good (fun U H h => zxT h) hbc hbs (show zget zprog 6 = some mJ0_isLatin1_aae02 from rfl) rfl rfl rfl zw86 zw83 zw84 zw85 zw5 (by decide +kernel) (zda zDJ0_charAt_5068e 1 rfl rfl))
    (zr_n (zr_n (zr_s (zqr_if_eq C (zda zDJ0_charAt_5068e 4 rfl rfl) (by decide))
    (zr_n (zr_n (zr_s (zq_aload_n C (zda zDJ0_charAt_5068e 7 rfl rfl) rfl)
    (zr_s (zk_getSv C (fun U H h => zxT h) (zda zDJ0_charAt_5068e 8 rfl rfl) zw1803)
    (zr_n (zr_n (zr_s (zq_iload_n C (zda zDJ0_charAt_5068e 11 rfl rfl) rfl)
    (zr_s (zk_callS C zXX_ok zTs_good hbc hbs (show zget zprog 9 = some mJ1_charAt_3b067 from rfl) rfl rfl zw89 zw87 zw88 zw6 (by decide +kernel) (zda zDJ0_charAt_5068e 12 rfl rfl))
    (zr_n (zr_n (zr_s (zk_retC C hbc hbs rfl (zda zDJ0_charAt_5068e 15 rfl rfl))
    zr_0))))))))))))))))
  (zrs_c (zr_s (zq_aload_n C (zda zDJ0_charAt_5068e 16 rfl rfl) rfl)
    (zr_s (zk_getSv C (fun U H h => zxT h) (zda zDJ0_charAt_5068e 17 rfl rfl) zw1803)
    (zr_n (zr_n (zr_s (zq_iload_n C (zda zDJ0_charAt_5068e 20 rfl rfl) rfl)
    (zr_n (zr_n (zr_n (zr_s (zk_retC C hbc hbs rfl (zda zDJ0_charAt_5068e 24 rfl rfl))
    zr_0)))))))))
  zrs_0))
set_option maxRecDepth 100000 in
set_option maxHeartbeats 4000000 in
theorem okJ0_checkBoundsBeginEnd_23922 {l : Launch} {D : va_G} {tys : List (ClassId × FieldType)} {o : zO} {z : Nat} (E : zEnv tys) : zCodeOk l D vwCl tys o z (zXX o z) zTs zprog mJ0_checkBoundsBeginEnd_23922 := by
  intro p e R s m args below meth c0 Q ws0 hbc hbs C pc sem h
  replace hbc : R.cells = 0 := hbc
  replace hbs : R.slots = 0 := hbs
  replace C : zCx p R s m args meth c0 D vwCl tys z (zXX o z) zTs RJ0 cJ0_checkBoundsBeginEnd_23922 3 "checkBoundsBeginEnd" := C
  refine zRows_get (P := fun pc sem => zOp p l e R s m args below meth c0 Q D vwCl tys o z (zXX o z) zTs zprog ws0 3 cJ0_checkBoundsBeginEnd_23922 none pc sem) (c := kJ0_checkBoundsBeginEnd_23922) ?_ h
  unfold kJ0_checkBoundsBeginEnd_23922
  exact (zrs_c (zr_s (zq_iload_n C (zda zDJ0_checkBoundsBeginEnd_23922 0 rfl rfl) rfl)
    (zr_s (zq_iload_n C (zda zDJ0_checkBoundsBeginEnd_23922 1 rfl rfl) rfl)
    (zr_s (zq_iload_n C (zda zDJ0_checkBoundsBeginEnd_23922 2 rfl rfl) rfl)
    (zr_s (zq_getsQ (k := 100) C (by decide) (zda zDJ0_checkBoundsBeginEnd_23922 3 rfl rfl) zw93 (fun U H h => zxF h))
    (zr_n (zr_n (zr_s (zk_callS C zXX_ok zTs_good hbc hbs (show zget zprog 12 = some mJ3_checkFromToIndex_8c36e from rfl) rfl rfl zw171 zw169 zw170 zw7 (by decide +kernel) (zda zDJ0_checkBoundsBeginEnd_23922 6 rfl rfl))
    (zr_n (zr_n (zr_s (zk_pop C (zda zDJ0_checkBoundsBeginEnd_23922 9 rfl rfl))
    (zr_s (zk_ret0 C hbc hbs rfl (zda zDJ0_checkBoundsBeginEnd_23922 10 rfl rfl))
    zr_0)))))))))))
  zrs_0)
set_option maxRecDepth 100000 in
set_option maxHeartbeats 4000000 in
theorem okJ0_checkIndex_df160 {l : Launch} {D : va_G} {tys : List (ClassId × FieldType)} {o : zO} {z : Nat} (E : zEnv tys) : zCodeOk l D vwCl tys o z (zXX o z) zTs zprog mJ0_checkIndex_df160 := by
  intro p e R s m args below meth c0 Q ws0 hbc hbs C pc sem h
  replace hbc : R.cells = 0 := hbc
  replace hbs : R.slots = 0 := hbs
  replace C : zCx p R s m args meth c0 D vwCl tys z (zXX o z) zTs RJ0 cJ0_checkIndex_df160 2 "checkIndex" := C
  refine zRows_get (P := fun pc sem => zOp p l e R s m args below meth c0 Q D vwCl tys o z (zXX o z) zTs zprog ws0 2 cJ0_checkIndex_df160 none pc sem) (c := kJ0_checkIndex_df160) ?_ h
  unfold kJ0_checkIndex_df160
  exact (zrs_c (zr_s (zq_iload_n C (zda zDJ0_checkIndex_df160 0 rfl rfl) rfl)
    (zr_s (zq_iload_n C (zda zDJ0_checkIndex_df160 1 rfl rfl) rfl)
    (zr_s (zq_getsQ (k := 100) C (by decide) (zda zDJ0_checkIndex_df160 2 rfl rfl) zw93 (fun U H h => zxF h))
    (zr_n (zr_n (zr_s (zk_callS C zXX_ok zTs_good hbc hbs (show zget zprog 13 = some mJ3_checkIndex_8e157 from rfl) rfl rfl zw97 zw95 zw96 zw7 (by decide +kernel) (zda zDJ0_checkIndex_df160 5 rfl rfl))
    (zr_n (zr_n (zr_s (zk_pop C (zda zDJ0_checkIndex_df160 8 rfl rfl))
    (zr_s (zk_ret0 C hbc hbs rfl (zda zDJ0_checkIndex_df160 9 rfl rfl))
    zr_0))))))))))
  zrs_0)
set_option maxRecDepth 100000 in
set_option maxHeartbeats 4000000 in
theorem okJ0_coder_7d493 {l : Launch} {D : va_G} {tys : List (ClassId × FieldType)} {o : zO} {z : Nat} (E : zEnv tys) : zCodeOk l D vwCl tys o z (zXX o z) zTs zprog mJ0_coder_7d493 := by
  intro p e R s m args below meth c0 Q ws0 hbc hbs C pc sem h
  replace hbc : R.cells = 0 := hbc
  replace hbs : R.slots = 0 := hbs
  replace C : zCx p R s m args meth c0 D vwCl tys z (zXX o z) zTs RJ0 cJ0_coder_7d493 1 "coder" := C
  refine zRows_get (P := fun pc sem => zOp p l e R s m args below meth c0 Q D vwCl tys o z (zXX o z) zTs zprog ws0 1 cJ0_coder_7d493 (some .byte) pc sem) (c := kJ0_coder_7d493) ?_ h
  unfold kJ0_coder_7d493
  exact (zrs_c (zr_s (zq_getsI (v := .ofNat 1) C (zda zDJ0_coder_7d493 0 rfl rfl) zw77 (fun U H h => zxC h) (by decide))
    (zr_n (zr_n (zr_s (zqr_if_eq C (zda zDJ0_coder_7d493 3 rfl rfl) (by decide))
    (zr_n (zr_n (zr_s (zq_aload_n C (zda zDJ0_coder_7d493 6 rfl rfl) rfl)
    (zr_s (zk_getSc C (fun U H h => zxT h) (zda zDJ0_coder_7d493 7 rfl rfl) zw1804)
    (zr_n (zr_n (zr_s (zk_goto C (zda zDJ0_coder_7d493 10 rfl rfl) (by decide))
    (zr_n (zr_n (zr_s (zq_iconst (n := .ofNat 1) C (zda zDJ0_coder_7d493 13 rfl rfl) (by decide))
    (zr_s (zk_retB C hbc hbs rfl (zda zDJ0_coder_7d493 14 rfl rfl))
    zr_0)))))))))))))))
  zrs_0)
set_option maxRecDepth 100000 in
set_option maxHeartbeats 4000000 in
theorem okJ0_indexOf_0f7a4 {l : Launch} {D : va_G} {tys : List (ClassId × FieldType)} {o : zO} {z : Nat} (E : zEnv tys) : zCodeOk l D vwCl tys o z (zXX o z) zTs zprog mJ0_indexOf_0f7a4 := by
  intro p e R s m args below meth c0 Q ws0 hbc hbs C pc sem h
  replace hbc : R.cells = 0 := hbc
  replace hbs : R.slots = 0 := hbs
  replace C : zCx p R s m args meth c0 D vwCl tys z (zXX o z) zTs RJ0 cJ0_indexOf_0f7a4 2 "indexOf" := C
  refine zRows_get (P := fun pc sem => zOp p l e R s m args below meth c0 Q D vwCl tys o z (zXX o z) zTs zprog ws0 2 cJ0_indexOf_0f7a4 (some .int) pc sem) (c := kJ0_indexOf_0f7a4) ?_ h
  unfold kJ0_indexOf_0f7a4
  exact (zrs_c (zr_s (zq_aload_n C (zda zDJ0_indexOf_0f7a4 0 rfl rfl) rfl)
    (zr_s (zq_iload_n C (zda zDJ0_indexOf_0f7a4 1 rfl rfl) rfl)
    (zr_s (zq_iconst (n := .ofNat 0) C (zda zDJ0_indexOf_0f7a4 2 rfl rfl) (by decide))
    (zr_s (zk_callT (n := 2) C zXX_ok zTs_good (fun U H h => zxT h) hbc hbs (show zget zprog 5 = some mJ0_indexOf_7cf53 from rfl) rfl rfl rfl zw137 zw134 zw135 zw136 zw5 (by decide +kernel) (zda zDJ0_indexOf_0f7a4 3 rfl rfl))
    (zr_n (zr_n (zr_s (zk_ret1 (ty := .int) C hbc hbs rfl rfl (Or.inl ⟨(zda zDJ0_indexOf_0f7a4 6 rfl rfl), by decide⟩))
    zr_0)))))))
  zrs_0)
set_option maxRecDepth 100000 in
set_option maxHeartbeats 4000000 in
theorem okJ0_indexOf_7cf53 {l : Launch} {D : va_G} {tys : List (ClassId × FieldType)} {o : zO} {z : Nat} (E : zEnv tys) : zCodeOk l D vwCl tys o z (zXX o z) zTs zprog mJ0_indexOf_7cf53 := by
  intro p e R s m args below meth c0 Q ws0 hbc hbs C pc sem h
  replace hbc : R.cells = 0 := hbc
  replace hbs : R.slots = 0 := hbs
  replace C : zCx p R s m args meth c0 D vwCl tys z (zXX o z) zTs RJ0 cJ0_indexOf_7cf53 3 "indexOf" := C
  refine zRows_get (P := fun pc sem => zOp p l e R s m args below meth c0 Q D vwCl tys o z (zXX o z) zTs zprog ws0 3 cJ0_indexOf_7cf53 (some .int) pc sem) (c := kJ0_indexOf_7cf53) ?_ h
  unfold kJ0_indexOf_7cf53
  exact (zrs_c (zr_s (zq_aload_n C (zda zDJ0_indexOf_7cf53 0 rfl rfl) rfl)
    (zr_s (zk_callT (n := 0) C zXX_ok zTs_good (fun U H h => zxT h) hbc hbs (show zget zprog 6 = some mJ0_isLatin1_aae02 from rfl) rfl rfl rfl zw86 zw83 zw84 zw85 zw5 (by decide +kernel) (zda zDJ0_indexOf_7cf53 1 rfl rfl))
    (zr_n (zr_n (zr_s (zqr_if_eq C (zda zDJ0_indexOf_7cf53 4 rfl rfl) (by decide))
    (zr_n (zr_n (zr_s (zq_aload_n C (zda zDJ0_indexOf_7cf53 7 rfl rfl) rfl)
    (zr_s (zk_getSv C (fun U H h => zxT h) (zda zDJ0_indexOf_7cf53 8 rfl rfl) zw1803)
    (zr_n (zr_n (zr_s (zq_iload_n C (zda zDJ0_indexOf_7cf53 11 rfl rfl) rfl)
    (zr_s (zq_iload_n C (zda zDJ0_indexOf_7cf53 12 rfl rfl) rfl)
    (zr_s (zq_aload_n C (zda zDJ0_indexOf_7cf53 13 rfl rfl) rfl)
    (zr_s (zk_callT (n := 0) C zXX_ok zTs_good (fun U H h => zxT h) hbc hbs (show zget zprog 7 = some mJ0_length_8abf5 from rfl) rfl rfl rfl zw72 zw138 zw70 zw71 zw5 (by decide +kernel) (zda zDJ0_indexOf_7cf53 14 rfl rfl))
    (zr_n zr_0))))))))))))))))
  (zrs_c (zr_n (zr_s (zk_callS C zXX_ok zTs_good hbc hbs (show zget zprog 11 = some mJ1_indexOf_4cfef from rfl) rfl rfl zw141 zw139 zw140 zw6 (by decide +kernel) (zda zDJ0_indexOf_7cf53 17 rfl rfl))
    (zr_n (zr_n (zr_s (zk_goto C (zda zDJ0_indexOf_7cf53 20 rfl rfl) (by decide))
    (zr_n (zr_n (zr_s (zq_aload_n C (zda zDJ0_indexOf_7cf53 23 rfl rfl) rfl)
    (zr_s (zk_getSv C (fun U H h => zxT h) (zda zDJ0_indexOf_7cf53 24 rfl rfl) zw1803)
    (zr_n (zr_n (zr_s (zq_iload_n C (zda zDJ0_indexOf_7cf53 27 rfl rfl) rfl)
    (zr_s (zq_iload_n C (zda zDJ0_indexOf_7cf53 28 rfl rfl) rfl)
    (zr_s (zq_aload_n C (zda zDJ0_indexOf_7cf53 29 rfl rfl) rfl)
    (zr_s (zk_callT (n := 0) C zXX_ok zTs_good (fun U H h => zxT h) hbc hbs (show zget zprog 7 = some mJ0_length_8abf5 from rfl) rfl rfl rfl zw72 zw138 zw70 zw71 zw5 (by decide +kernel) (zda zDJ0_indexOf_7cf53 30 rfl rfl))
    (zr_n zr_0))))))))))))))))
  (zrs_c (zr_n (zr_n (zr_n (zr_n (zr_s (zk_ret1 (ty := .int) C hbc hbs rfl rfl (Or.inl ⟨(zda zDJ0_indexOf_7cf53 36 rfl rfl), by decide⟩))
    zr_0)))))
  zrs_0)))
set_option maxRecDepth 100000 in
set_option maxHeartbeats 4000000 in
theorem okJ0_isLatin1_aae02 {l : Launch} {D : va_G} {tys : List (ClassId × FieldType)} {o : zO} {z : Nat} (E : zEnv tys) : zCodeOk l D vwCl tys o z (zXX o z) zTs zprog mJ0_isLatin1_aae02 := by
  intro p e R s m args below meth c0 Q ws0 hbc hbs C pc sem h
  replace hbc : R.cells = 0 := hbc
  replace hbs : R.slots = 0 := hbs
  replace C : zCx p R s m args meth c0 D vwCl tys z (zXX o z) zTs RJ0 cJ0_isLatin1_aae02 1 "isLatin1" := C
  refine zRows_get (P := fun pc sem => zOp p l e R s m args below meth c0 Q D vwCl tys o z (zXX o z) zTs zprog ws0 1 cJ0_isLatin1_aae02 (some .boolean) pc sem) (c := kJ0_isLatin1_aae02) ?_ h
  unfold kJ0_isLatin1_aae02
  exact (zrs_c (zr_s (zq_getsI (v := .ofNat 1) C (zda zDJ0_isLatin1_aae02 0 rfl rfl) zw77 (fun U H h => zxC h) (by decide))
    (zr_n (zr_n (zr_s (zqr_if_eq C (zda zDJ0_isLatin1_aae02 3 rfl rfl) (by decide))
    (zr_n (zr_n (zr_s (zq_aload_n C (zda zDJ0_isLatin1_aae02 6 rfl rfl) rfl)
    (zr_s (zk_getSc C (fun U H h => zxT h) (zda zDJ0_isLatin1_aae02 7 rfl rfl) zw1804)
    (zr_n (zr_n (zr_s (zqr_if_ne C (zda zDJ0_isLatin1_aae02 10 rfl rfl) (by decide))
    (zr_n (zr_n (zr_s (zq_iconst (n := .ofNat 1) C (zda zDJ0_isLatin1_aae02 13 rfl rfl) (by decide))
    (zr_s (zk_goto C (zda zDJ0_isLatin1_aae02 14 rfl rfl) (by decide))
    (zr_n zr_0))))))))))))))))
  (zrs_c (zr_n (zr_s (zq_iconst (n := .ofNat 0) C (zda zDJ0_isLatin1_aae02 17 rfl rfl) (by decide))
    (zr_s (zk_ret1 (ty := .boolean) C hbc hbs rfl rfl (Or.inl ⟨(zda zDJ0_isLatin1_aae02 18 rfl rfl), by decide⟩))
    zr_0)))
  zrs_0))
set_option maxRecDepth 100000 in
set_option maxHeartbeats 4000000 in
theorem okJ0_length_8abf5 {l : Launch} {D : va_G} {tys : List (ClassId × FieldType)} {o : zO} {z : Nat} (E : zEnv tys) : zCodeOk l D vwCl tys o z (zXX o z) zTs zprog mJ0_length_8abf5 := by
  intro p e R s m args below meth c0 Q ws0 hbc hbs C pc sem h
  replace hbc : R.cells = 0 := hbc
  replace hbs : R.slots = 0 := hbs
  replace C : zCx p R s m args meth c0 D vwCl tys z (zXX o z) zTs RJ0 cJ0_length_8abf5 1 "length" := C
  refine zRows_get (P := fun pc sem => zOp p l e R s m args below meth c0 Q D vwCl tys o z (zXX o z) zTs zprog ws0 1 cJ0_length_8abf5 (some .int) pc sem) (c := kJ0_length_8abf5) ?_ h
  unfold kJ0_length_8abf5
  exact (zrs_c (zr_s (zq_aload_n C (zda zDJ0_length_8abf5 0 rfl rfl) rfl)
    (zr_s (zk_getSv C (fun U H h => zxT h) (zda zDJ0_length_8abf5 1 rfl rfl) zw1803)
    (zr_n (zr_n (zr_s (zk_lenS C (fun U H h => zxT h) (zda zDJ0_length_8abf5 4 rfl rfl))
    (zr_s (zq_aload_n C (zda zDJ0_length_8abf5 5 rfl rfl) rfl)
    (zr_s (zk_callT (n := 0) C zXX_ok zTs_good (fun U H h => zxT h) hbc hbs (show zget zprog 3 = some mJ0_coder_7d493 from rfl) rfl rfl rfl zw76 zw73 zw74 zw75 zw5 (by decide +kernel) (zda zDJ0_length_8abf5 6 rfl rfl))
    (zr_n (zr_n (zr_s (zq_ishr C (zda zDJ0_length_8abf5 9 rfl rfl))
    (zr_s (zk_ret1 (ty := .int) C hbc hbs rfl rfl (Or.inl ⟨(zda zDJ0_length_8abf5 10 rfl rfl), by decide⟩))
    zr_0)))))))))))
  zrs_0)
set_option maxRecDepth 100000 in
set_option maxHeartbeats 4000000 in
theorem okJ1_canEncode_9a6ad {l : Launch} {D : va_G} {tys : List (ClassId × FieldType)} {o : zO} {z : Nat} (E : zEnv tys) : zCodeOk l D vwCl tys o z (zXX o z) zTs zprog mJ1_canEncode_9a6ad := by
  intro p e R s m args below meth c0 Q ws0 hbc hbs C pc sem h
  replace hbc : R.cells = 0 := hbc
  replace hbs : R.slots = 0 := hbs
  replace C : zCx p R s m args meth c0 D vwCl tys z (zXX o z) zTs RJ1 cJ1_canEncode_9a6ad 1 "canEncode" := C
  refine zRows_get (P := fun pc sem => zOp p l e R s m args below meth c0 Q D vwCl tys o z (zXX o z) zTs zprog ws0 1 cJ1_canEncode_9a6ad (some .boolean) pc sem) (c := kJ1_canEncode_9a6ad) ?_ h
  unfold kJ1_canEncode_9a6ad
  exact (zrs_c (zr_s (zq_iload_n C (zda zDJ1_canEncode_9a6ad 0 rfl rfl) rfl)
    (zr_s (zqr_if_lt C (zda zDJ1_canEncode_9a6ad 1 rfl rfl) (by decide))
    (zr_n (zr_n (zr_s (zq_iload_n C (zda zDJ1_canEncode_9a6ad 4 rfl rfl) rfl)
    (zr_s (zq_sipush (n := .ofNat 255) C (zda zDJ1_canEncode_9a6ad 5 rfl rfl) (by decide) (by decide))
    (zr_n (zr_n (zr_s (zqr_gt C (zda zDJ1_canEncode_9a6ad 8 rfl rfl) (by decide))
    (zr_n (zr_n (zr_s (zq_iconst (n := .ofNat 1) C (zda zDJ1_canEncode_9a6ad 11 rfl rfl) (by decide))
    (zr_s (zk_goto C (zda zDJ1_canEncode_9a6ad 12 rfl rfl) (by decide))
    (zr_n (zr_n (zr_s (zq_iconst (n := .ofNat 0) C (zda zDJ1_canEncode_9a6ad 15 rfl rfl) (by decide))
    zr_0))))))))))))))))
  (zrs_c (zr_s (zk_ret1 (ty := .boolean) C hbc hbs rfl rfl (Or.inl ⟨(zda zDJ1_canEncode_9a6ad 16 rfl rfl), by decide⟩))
    zr_0)
  zrs_0))
set_option maxRecDepth 100000 in
set_option maxHeartbeats 4000000 in
theorem okJ1_charAt_3b067 {l : Launch} {D : va_G} {tys : List (ClassId × FieldType)} {o : zO} {z : Nat} (E : zEnv tys) : zCodeOk l D vwCl tys o z (zXX o z) zTs zprog mJ1_charAt_3b067 := by
  intro p e R s m args below meth c0 Q ws0 hbc hbs C pc sem h
  replace hbc : R.cells = 0 := hbc
  replace hbs : R.slots = 0 := hbs
  replace C : zCx p R s m args meth c0 D vwCl tys z (zXX o z) zTs RJ1 cJ1_charAt_3b067 2 "charAt" := C
  refine zRows_get (P := fun pc sem => zOp p l e R s m args below meth c0 Q D vwCl tys o z (zXX o z) zTs zprog ws0 2 cJ1_charAt_3b067 (some .char) pc sem) (c := kJ1_charAt_3b067) ?_ h
  unfold kJ1_charAt_3b067
  exact (zrs_c (zr_s (zq_iload_n C (zda zDJ1_charAt_3b067 0 rfl rfl) rfl)
    (zr_s (zq_aload_n C (zda zDJ1_charAt_3b067 1 rfl rfl) rfl)
    (zr_s (zk_lenS C (fun U H h => zxT h) (zda zDJ1_charAt_3b067 2 rfl rfl))
    (zr_s (zk_callS C zXX_ok zTs_good hbc hbs (show zget zprog 2 = some mJ0_checkIndex_df160 from rfl) rfl rfl zw92 zw90 zw91 zw5 (by decide +kernel) (zda zDJ1_charAt_3b067 3 rfl rfl))
    (zr_n (zr_n (zr_s (zq_aload_n C (zda zDJ1_charAt_3b067 6 rfl rfl) rfl)
    (zr_s (zq_iload_n C (zda zDJ1_charAt_3b067 7 rfl rfl) rfl)
    (zr_s (zk_baldS C (fun U H h => zxT h) (zda zDJ1_charAt_3b067 8 rfl rfl))
    (zr_s (zq_sipush (n := .ofNat 255) C (zda zDJ1_charAt_3b067 9 rfl rfl) (by decide) (by decide))
    (zr_n (zr_n (zr_s (zqb_and C (zda zDJ1_charAt_3b067 12 rfl rfl))
    (zr_s (zq_i2c C (zda zDJ1_charAt_3b067 13 rfl rfl))
    (zr_s (zk_retC C hbc hbs rfl (zda zDJ1_charAt_3b067 14 rfl rfl))
    zr_0)))))))))))))))
  zrs_0)
set_option maxRecDepth 100000 in
set_option maxHeartbeats 4000000 in
theorem okJ1_indexOfChar_4cfef {l : Launch} {D : va_G} {tys : List (ClassId × FieldType)} {o : zO} {z : Nat} (E : zEnv tys) : zCodeOk l D vwCl tys o z (zXX o z) zTs zprog mJ1_indexOfChar_4cfef := by
  intro p e R s m args below meth c0 Q ws0 hbc hbs C pc sem h
  replace hbc : R.cells = 0 := hbc
  replace hbs : R.slots = 0 := hbs
  replace C : zCx p R s m args meth c0 D vwCl tys z (zXX o z) zTs RJ1 cJ1_indexOfChar_4cfef 6 "indexOfChar" := C
  refine zRows_get (P := fun pc sem => zOp p l e R s m args below meth c0 Q D vwCl tys o z (zXX o z) zTs zprog ws0 6 cJ1_indexOfChar_4cfef (some .int) pc sem) (c := kJ1_indexOfChar_4cfef) ?_ h
  unfold kJ1_indexOfChar_4cfef
  exact (zrs_c (zr_s (zq_iload_n C (zda zDJ1_indexOfChar_4cfef 0 rfl rfl) rfl)
    (zr_s (zq_i2b C (zda zDJ1_indexOfChar_4cfef 1 rfl rfl))
    (zr_s (zq_istoreN C (zda zDJ1_indexOfChar_4cfef 2 rfl rfl) (by decide))
    (zr_n (zr_s (zq_iload_n C (zda zDJ1_indexOfChar_4cfef 4 rfl rfl) rfl)
    (zr_s (zq_istoreN C (zda zDJ1_indexOfChar_4cfef 5 rfl rfl) (by decide))
    (zr_n (zr_s (zq_iload C (zda zDJ1_indexOfChar_4cfef 7 rfl rfl))
    (zr_n (zr_s (zq_iload_n C (zda zDJ1_indexOfChar_4cfef 9 rfl rfl) rfl)
    (zr_s (zqr_ge C (zda zDJ1_indexOfChar_4cfef 10 rfl rfl) (by decide))
    (zr_n (zr_n (zr_s (zq_aload_n C (zda zDJ1_indexOfChar_4cfef 13 rfl rfl) rfl)
    (zr_s (zq_iload C (zda zDJ1_indexOfChar_4cfef 14 rfl rfl))
    (zr_n zr_0))))))))))))))))
  (zrs_c (zr_s (zk_baldS C (fun U H h => zxT h) (zda zDJ1_indexOfChar_4cfef 16 rfl rfl))
    (zr_s (zq_iload C (zda zDJ1_indexOfChar_4cfef 17 rfl rfl))
    (zr_n (zr_s (zqr_ne C (zda zDJ1_indexOfChar_4cfef 19 rfl rfl) (by decide))
    (zr_n (zr_n (zr_s (zq_iload C (zda zDJ1_indexOfChar_4cfef 22 rfl rfl))
    (zr_n (zr_s (zk_ret1 (ty := .int) C hbc hbs rfl rfl (Or.inl ⟨(zda zDJ1_indexOfChar_4cfef 24 rfl rfl), by decide⟩))
    (zr_s (zk_inc (n := .ofNat 1) C (zda zDJ1_indexOfChar_4cfef 25 rfl rfl) (by decide) (by decide))
    (zr_n (zr_n (zr_s (zk_goto C (zda zDJ1_indexOfChar_4cfef 28 rfl rfl) (by decide))
    (zr_n (zr_n (zr_s (zq_iconst (n := .negSucc 0) C (zda zDJ1_indexOfChar_4cfef 31 rfl rfl) (by decide))
    zr_0))))))))))))))))
  (zrs_c (zr_s (zk_ret1 (ty := .int) C hbc hbs rfl rfl (Or.inl ⟨(zda zDJ1_indexOfChar_4cfef 32 rfl rfl), by decide⟩))
    zr_0)
  zrs_0)))
set_option maxRecDepth 100000 in
set_option maxHeartbeats 4000000 in
theorem okJ1_indexOf_4cfef {l : Launch} {D : va_G} {tys : List (ClassId × FieldType)} {o : zO} {z : Nat} (E : zEnv tys) : zCodeOk l D vwCl tys o z (zXX o z) zTs zprog mJ1_indexOf_4cfef := by
  intro p e R s m args below meth c0 Q ws0 hbc hbs C pc sem h
  replace hbc : R.cells = 0 := hbc
  replace hbs : R.slots = 0 := hbs
  replace C : zCx p R s m args meth c0 D vwCl tys z (zXX o z) zTs RJ1 cJ1_indexOf_4cfef 4 "indexOf" := C
  refine zRows_get (P := fun pc sem => zOp p l e R s m args below meth c0 Q D vwCl tys o z (zXX o z) zTs zprog ws0 4 cJ1_indexOf_4cfef (some .int) pc sem) (c := kJ1_indexOf_4cfef) ?_ h
  unfold kJ1_indexOf_4cfef
  exact (zrs_c (zr_s (zq_iload_n C (zda zDJ1_indexOf_4cfef 0 rfl rfl) rfl)
    (zr_s (zk_callS C zXX_ok zTs_good hbc hbs (show zget zprog 8 = some mJ1_canEncode_9a6ad from rfl) rfl rfl zw144 zw142 zw143 zw6 (by decide +kernel) (zda zDJ1_indexOf_4cfef 1 rfl rfl))
    (zr_n (zr_n (zr_s (zqr_if_ne C (zda zDJ1_indexOf_4cfef 4 rfl rfl) (by decide))
    (zr_n (zr_n (zr_s (zq_iconst (n := .negSucc 0) C (zda zDJ1_indexOf_4cfef 7 rfl rfl) (by decide))
    (zr_s (zk_ret1 (ty := .int) C hbc hbs rfl rfl (Or.inl ⟨(zda zDJ1_indexOf_4cfef 8 rfl rfl), by decide⟩))
    (zr_s (zq_iload_n C (zda zDJ1_indexOf_4cfef 9 rfl rfl) rfl)
    (zr_s (zq_iconst (n := .ofNat 0) C (zda zDJ1_indexOf_4cfef 10 rfl rfl) (by decide))
    (zr_s (zq_max C hbc hbs (zda zDJ1_indexOf_4cfef 11 rfl rfl) zw145 zw146 zw9 zw147)
    (zr_n (zr_n (zr_s (zq_istoreN_n C (zda zDJ1_indexOf_4cfef 14 rfl rfl) rfl (by decide))
    (zr_s (zq_iload_n C (zda zDJ1_indexOf_4cfef 15 rfl rfl) rfl)
    zr_0))))))))))))))))
  (zrs_c (zr_s (zq_aload_n C (zda zDJ1_indexOf_4cfef 16 rfl rfl) rfl)
    (zr_s (zk_lenS C (fun U H h => zxT h) (zda zDJ1_indexOf_4cfef 17 rfl rfl))
    (zr_s (zq_min C hbc hbs (zda zDJ1_indexOf_4cfef 18 rfl rfl) zw148 zw149 zw9 zw150)
    (zr_n (zr_n (zr_s (zq_istoreN_n C (zda zDJ1_indexOf_4cfef 21 rfl rfl) rfl (by decide))
    (zr_s (zq_iload_n C (zda zDJ1_indexOf_4cfef 22 rfl rfl) rfl)
    (zr_s (zq_iload_n C (zda zDJ1_indexOf_4cfef 23 rfl rfl) rfl)
    (zr_s (zqr_lt C (zda zDJ1_indexOf_4cfef 24 rfl rfl) (by decide))
    (zr_n (zr_n (zr_s (zq_iconst (n := .negSucc 0) C (zda zDJ1_indexOf_4cfef 27 rfl rfl) (by decide))
    (zr_s (zk_ret1 (ty := .int) C hbc hbs rfl rfl (Or.inl ⟨(zda zDJ1_indexOf_4cfef 28 rfl rfl), by decide⟩))
    (zr_s (zq_aload_n C (zda zDJ1_indexOf_4cfef 29 rfl rfl) rfl)
    (zr_s (zq_iload_n C (zda zDJ1_indexOf_4cfef 30 rfl rfl) rfl)
    (zr_s (zq_iload_n C (zda zDJ1_indexOf_4cfef 31 rfl rfl) rfl)
    zr_0))))))))))))))))
  (zrs_c (zr_s (zq_iload_n C (zda zDJ1_indexOf_4cfef 32 rfl rfl) rfl)
    (zr_s (zk_callS C zXX_ok zTs_good hbc hbs (show zget zprog 10 = some mJ1_indexOfChar_4cfef from rfl) rfl rfl zw153 zw151 zw152 zw6 (by decide +kernel) (zda zDJ1_indexOf_4cfef 33 rfl rfl))
    (zr_n (zr_n (zr_s (zk_ret1 (ty := .int) C hbc hbs rfl rfl (Or.inl ⟨(zda zDJ1_indexOf_4cfef 36 rfl rfl), by decide⟩))
    zr_0)))))
  zrs_0)))
set_option maxRecDepth 100000 in
set_option maxHeartbeats 4000000 in
theorem okJ3_checkFromToIndex_8c36e {l : Launch} {D : va_G} {tys : List (ClassId × FieldType)} {o : zO} {z : Nat} (E : zEnv tys) : zCodeOk l D vwCl tys o z (zXX o z) zTs zprog mJ3_checkFromToIndex_8c36e := by
  intro p e R s m args below meth c0 Q ws0 hbc hbs C pc sem h
  replace hbc : R.cells = 0 := hbc
  replace hbs : R.slots = 0 := hbs
  replace C : zCx p R s m args meth c0 D vwCl tys z (zXX o z) zTs RJ3 cJ3_checkFromToIndex_8c36e 4 "checkFromToIndex" := C
  refine zRows_get (P := fun pc sem => zOp p l e R s m args below meth c0 Q D vwCl tys o z (zXX o z) zTs zprog ws0 4 cJ3_checkFromToIndex_8c36e (some .int) pc sem) (c := kJ3_checkFromToIndex_8c36e) ?_ h
  unfold kJ3_checkFromToIndex_8c36e
  exact (zrs_c (zr_s (zq_iload_n C (zda zDJ3_checkFromToIndex_8c36e 0 rfl rfl) rfl)
    (zr_s (zqr_if_lt C (zda zDJ3_checkFromToIndex_8c36e 1 rfl rfl) (by decide))
    (zr_n (zr_n (zr_s (zq_iload_n C (zda zDJ3_checkFromToIndex_8c36e 4 rfl rfl) rfl)
    (zr_s (zq_iload_n C (zda zDJ3_checkFromToIndex_8c36e 5 rfl rfl) rfl)
    (zr_s (zqr_gt C (zda zDJ3_checkFromToIndex_8c36e 6 rfl rfl) (by decide))
    (zr_n (zr_n (zr_s (zq_iload_n C (zda zDJ3_checkFromToIndex_8c36e 9 rfl rfl) rfl)
    (zr_s (zq_iload_n C (zda zDJ3_checkFromToIndex_8c36e 10 rfl rfl) rfl)
    (zr_s (zqr_le C (zda zDJ3_checkFromToIndex_8c36e 11 rfl rfl) (by decide))
    (zr_n (zr_n (zr_s (zq_aload_n C (zda zDJ3_checkFromToIndex_8c36e 14 rfl rfl) rfl)
    (zr_s (zq_iload_n C (zda zDJ3_checkFromToIndex_8c36e 15 rfl rfl) rfl)
    zr_0))))))))))))))))
  (zrs_c (zr_s (zq_iload_n C (zda zDJ3_checkFromToIndex_8c36e 16 rfl rfl) rfl)
    (zr_s (zq_iload_n C (zda zDJ3_checkFromToIndex_8c36e 17 rfl rfl) rfl)
    (zr_n (zr_n (zr_n (zr_n (zr_s (zq_iload_n C (zda zDJ3_checkFromToIndex_8c36e 22 rfl rfl) rfl)
    (zr_s (zk_ret1 (ty := .int) C hbc hbs rfl rfl (Or.inl ⟨(zda zDJ3_checkFromToIndex_8c36e 23 rfl rfl), by decide⟩))
    zr_0))))))))
  zrs_0))
set_option maxRecDepth 100000 in
set_option maxHeartbeats 4000000 in
theorem okJ3_checkIndex_8e157 {l : Launch} {D : va_G} {tys : List (ClassId × FieldType)} {o : zO} {z : Nat} (E : zEnv tys) : zCodeOk l D vwCl tys o z (zXX o z) zTs zprog mJ3_checkIndex_8e157 := by
  intro p e R s m args below meth c0 Q ws0 hbc hbs C pc sem h
  replace hbc : R.cells = 0 := hbc
  replace hbs : R.slots = 0 := hbs
  replace C : zCx p R s m args meth c0 D vwCl tys z (zXX o z) zTs RJ3 cJ3_checkIndex_8e157 3 "checkIndex" := C
  refine zRows_get (P := fun pc sem => zOp p l e R s m args below meth c0 Q D vwCl tys o z (zXX o z) zTs zprog ws0 3 cJ3_checkIndex_8e157 (some .int) pc sem) (c := kJ3_checkIndex_8e157) ?_ h
  unfold kJ3_checkIndex_8e157
  exact (zrs_c (zr_s (zq_iload_n C (zda zDJ3_checkIndex_8e157 0 rfl rfl) rfl)
    (zr_s (zqr_if_lt C (zda zDJ3_checkIndex_8e157 1 rfl rfl) (by decide))
    (zr_n (zr_n (zr_s (zq_iload_n C (zda zDJ3_checkIndex_8e157 4 rfl rfl) rfl)
    (zr_s (zq_iload_n C (zda zDJ3_checkIndex_8e157 5 rfl rfl) rfl)
    (zr_s (zqr_lt C (zda zDJ3_checkIndex_8e157 6 rfl rfl) (by decide))
    (zr_n (zr_n (zr_s (zq_aload_n C (zda zDJ3_checkIndex_8e157 9 rfl rfl) rfl)
    (zr_s (zq_iload_n C (zda zDJ3_checkIndex_8e157 10 rfl rfl) rfl)
    (zr_s (zq_iload_n C (zda zDJ3_checkIndex_8e157 11 rfl rfl) rfl)
    (zr_n (zr_n (zr_n (zr_n zr_0))))))))))))))))
  (zrs_c (zr_s (zq_iload_n C (zda zDJ3_checkIndex_8e157 16 rfl rfl) rfl)
    (zr_s (zk_ret1 (ty := .int) C hbc hbs rfl rfl (Or.inl ⟨(zda zDJ3_checkIndex_8e157 17 rfl rfl), by decide⟩))
    zr_0))
  zrs_0))
set_option maxRecDepth 100000 in
set_option maxHeartbeats 4000000 in
theorem okJ6_bitCount_0f7a4 {l : Launch} {D : va_G} {tys : List (ClassId × FieldType)} {o : zO} {z : Nat} (E : zEnv tys) : zCodeOk l D vwCl tys o z (zXX o z) zTs zprog mJ6_bitCount_0f7a4 := by
  intro p e R s m args below meth c0 Q ws0 hbc hbs C pc sem h
  replace hbc : R.cells = 0 := hbc
  replace hbs : R.slots = 0 := hbs
  replace C : zCx p R s m args meth c0 D vwCl tys z (zXX o z) zTs RJ6 cJ6_bitCount_0f7a4 1 "bitCount" := C
  refine zRows_get (P := fun pc sem => zOp p l e R s m args below meth c0 Q D vwCl tys o z (zXX o z) zTs zprog ws0 1 cJ6_bitCount_0f7a4 (some .int) pc sem) (c := kJ6_bitCount_0f7a4) ?_ h
  unfold kJ6_bitCount_0f7a4
  exact (zrs_c (zr_s (zq_iload_n C (zda zDJ6_bitCount_0f7a4 0 rfl rfl) rfl)
    (zr_s (zq_iload_n C (zda zDJ6_bitCount_0f7a4 1 rfl rfl) rfl)
    (zr_s (zq_iconst (n := .ofNat 1) C (zda zDJ6_bitCount_0f7a4 2 rfl rfl) (by decide))
    (zr_s (zq_iushr C (zda zDJ6_bitCount_0f7a4 3 rfl rfl))
    (zr_s (zq_ldc_w (n := .ofNat 1431655765) C (zda zDJ6_bitCount_0f7a4 4 rfl rfl) zw565 (by decide +kernel))
    (zr_n (zr_n (zr_s (zqb_and C (zda zDJ6_bitCount_0f7a4 7 rfl rfl))
    (zr_s (zk_sub C (zda zDJ6_bitCount_0f7a4 8 rfl rfl))
    (zr_s (zq_istoreN_n C (zda zDJ6_bitCount_0f7a4 9 rfl rfl) rfl (by decide))
    (zr_s (zq_iload_n C (zda zDJ6_bitCount_0f7a4 10 rfl rfl) rfl)
    (zr_s (zq_ldc_w (n := .ofNat 858993459) C (zda zDJ6_bitCount_0f7a4 11 rfl rfl) zw566 (by decide +kernel))
    (zr_n (zr_n (zr_s (zqb_and C (zda zDJ6_bitCount_0f7a4 14 rfl rfl))
    (zr_s (zq_iload_n C (zda zDJ6_bitCount_0f7a4 15 rfl rfl) rfl)
    zr_0))))))))))))))))
  (zrs_c (zr_s (zq_iconst (n := .ofNat 2) C (zda zDJ6_bitCount_0f7a4 16 rfl rfl) (by decide))
    (zr_s (zq_iushr C (zda zDJ6_bitCount_0f7a4 17 rfl rfl))
    (zr_s (zq_ldc_w (n := .ofNat 858993459) C (zda zDJ6_bitCount_0f7a4 18 rfl rfl) zw566 (by decide +kernel))
    (zr_n (zr_n (zr_s (zqb_and C (zda zDJ6_bitCount_0f7a4 21 rfl rfl))
    (zr_s (zk_add C (zda zDJ6_bitCount_0f7a4 22 rfl rfl))
    (zr_s (zq_istoreN_n C (zda zDJ6_bitCount_0f7a4 23 rfl rfl) rfl (by decide))
    (zr_s (zq_iload_n C (zda zDJ6_bitCount_0f7a4 24 rfl rfl) rfl)
    (zr_s (zq_iload_n C (zda zDJ6_bitCount_0f7a4 25 rfl rfl) rfl)
    (zr_s (zq_iconst (n := .ofNat 4) C (zda zDJ6_bitCount_0f7a4 26 rfl rfl) (by decide))
    (zr_s (zq_iushr C (zda zDJ6_bitCount_0f7a4 27 rfl rfl))
    (zr_s (zk_add C (zda zDJ6_bitCount_0f7a4 28 rfl rfl))
    (zr_s (zq_ldc_w (n := .ofNat 252645135) C (zda zDJ6_bitCount_0f7a4 29 rfl rfl) zw567 (by decide +kernel))
    (zr_n (zr_n zr_0))))))))))))))))
  (zrs_c (zr_s (zqb_and C (zda zDJ6_bitCount_0f7a4 32 rfl rfl))
    (zr_s (zq_istoreN_n C (zda zDJ6_bitCount_0f7a4 33 rfl rfl) rfl (by decide))
    (zr_s (zq_iload_n C (zda zDJ6_bitCount_0f7a4 34 rfl rfl) rfl)
    (zr_s (zq_iload_n C (zda zDJ6_bitCount_0f7a4 35 rfl rfl) rfl)
    (zr_s (zq_bipush (n := .ofNat 8) C (zda zDJ6_bitCount_0f7a4 36 rfl rfl) (by decide) (by decide))
    (zr_n (zr_s (zq_iushr C (zda zDJ6_bitCount_0f7a4 38 rfl rfl))
    (zr_s (zk_add C (zda zDJ6_bitCount_0f7a4 39 rfl rfl))
    (zr_s (zq_istoreN_n C (zda zDJ6_bitCount_0f7a4 40 rfl rfl) rfl (by decide))
    (zr_s (zq_iload_n C (zda zDJ6_bitCount_0f7a4 41 rfl rfl) rfl)
    (zr_s (zq_iload_n C (zda zDJ6_bitCount_0f7a4 42 rfl rfl) rfl)
    (zr_s (zq_bipush (n := .ofNat 16) C (zda zDJ6_bitCount_0f7a4 43 rfl rfl) (by decide) (by decide))
    (zr_n (zr_s (zq_iushr C (zda zDJ6_bitCount_0f7a4 45 rfl rfl))
    (zr_s (zk_add C (zda zDJ6_bitCount_0f7a4 46 rfl rfl))
    (zr_s (zq_istoreN_n C (zda zDJ6_bitCount_0f7a4 47 rfl rfl) rfl (by decide))
    zr_0))))))))))))))))
  (zrs_c (zr_s (zq_iload_n C (zda zDJ6_bitCount_0f7a4 48 rfl rfl) rfl)
    (zr_s (zq_bipush (n := .ofNat 63) C (zda zDJ6_bitCount_0f7a4 49 rfl rfl) (by decide) (by decide))
    (zr_n (zr_s (zqb_and C (zda zDJ6_bitCount_0f7a4 51 rfl rfl))
    (zr_s (zk_ret1 (ty := .int) C hbc hbs rfl rfl (Or.inl ⟨(zda zDJ6_bitCount_0f7a4 52 rfl rfl), by decide⟩))
    zr_0)))))
  zrs_0))))
set_option maxRecDepth 100000 in
set_option maxHeartbeats 4000000 in
theorem okJ6_numberOfTrailingZeros_0f7a4 {l : Launch} {D : va_G} {tys : List (ClassId × FieldType)} {o : zO} {z : Nat} (E : zEnv tys) : zCodeOk l D vwCl tys o z (zXX o z) zTs zprog mJ6_numberOfTrailingZeros_0f7a4 := by
  intro p e R s m args below meth c0 Q ws0 hbc hbs C pc sem h
  replace hbc : R.cells = 0 := hbc
  replace hbs : R.slots = 0 := hbs
  replace C : zCx p R s m args meth c0 D vwCl tys z (zXX o z) zTs RJ6 cJ6_numberOfTrailingZeros_0f7a4 2 "numberOfTrailingZeros" := C
  refine zRows_get (P := fun pc sem => zOp p l e R s m args below meth c0 Q D vwCl tys o z (zXX o z) zTs zprog ws0 2 cJ6_numberOfTrailingZeros_0f7a4 (some .int) pc sem) (c := kJ6_numberOfTrailingZeros_0f7a4) ?_ h
  unfold kJ6_numberOfTrailingZeros_0f7a4
  exact (zrs_c (zr_s (zq_iload_n C (zda zDJ6_numberOfTrailingZeros_0f7a4 0 rfl rfl) rfl)
    (zr_s (zq_iconst (n := .negSucc 0) C (zda zDJ6_numberOfTrailingZeros_0f7a4 1 rfl rfl) (by decide))
    (zr_s (zqb_xor C (zda zDJ6_numberOfTrailingZeros_0f7a4 2 rfl rfl))
    (zr_s (zq_iload_n C (zda zDJ6_numberOfTrailingZeros_0f7a4 3 rfl rfl) rfl)
    (zr_s (zq_iconst (n := .ofNat 1) C (zda zDJ6_numberOfTrailingZeros_0f7a4 4 rfl rfl) (by decide))
    (zr_s (zk_sub C (zda zDJ6_numberOfTrailingZeros_0f7a4 5 rfl rfl))
    (zr_s (zqb_and C (zda zDJ6_numberOfTrailingZeros_0f7a4 6 rfl rfl))
    (zr_s (zq_istoreN_n C (zda zDJ6_numberOfTrailingZeros_0f7a4 7 rfl rfl) rfl (by decide))
    (zr_s (zq_iload_n C (zda zDJ6_numberOfTrailingZeros_0f7a4 8 rfl rfl) rfl)
    (zr_s (zqr_if_gt C (zda zDJ6_numberOfTrailingZeros_0f7a4 9 rfl rfl) (by decide))
    (zr_n (zr_n (zr_s (zq_iload_n C (zda zDJ6_numberOfTrailingZeros_0f7a4 12 rfl rfl) rfl)
    (zr_s (zq_bipush (n := .ofNat 32) C (zda zDJ6_numberOfTrailingZeros_0f7a4 13 rfl rfl) (by decide) (by decide))
    (zr_n (zr_s (zqb_and C (zda zDJ6_numberOfTrailingZeros_0f7a4 15 rfl rfl))
    zr_0))))))))))))))))
  (zrs_c (zr_s (zk_ret1 (ty := .int) C hbc hbs rfl rfl (Or.inl ⟨(zda zDJ6_numberOfTrailingZeros_0f7a4 16 rfl rfl), by decide⟩))
    (zr_s (zq_iconst (n := .ofNat 1) C (zda zDJ6_numberOfTrailingZeros_0f7a4 17 rfl rfl) (by decide))
    (zr_s (zq_istoreN_n C (zda zDJ6_numberOfTrailingZeros_0f7a4 18 rfl rfl) rfl (by decide))
    (zr_s (zq_iload_n C (zda zDJ6_numberOfTrailingZeros_0f7a4 19 rfl rfl) rfl)
    (zr_s (zq_ldc_w (n := .ofNat 65536) C (zda zDJ6_numberOfTrailingZeros_0f7a4 20 rfl rfl) zw1536 (by decide +kernel))
    (zr_n (zr_n (zr_s (zqr_le C (zda zDJ6_numberOfTrailingZeros_0f7a4 23 rfl rfl) (by decide))
    (zr_n (zr_n (zr_s (zk_inc (n := .ofNat 16) C (zda zDJ6_numberOfTrailingZeros_0f7a4 26 rfl rfl) (by decide) (by decide))
    (zr_n (zr_n (zr_s (zq_iload_n C (zda zDJ6_numberOfTrailingZeros_0f7a4 29 rfl rfl) rfl)
    (zr_s (zq_bipush (n := .ofNat 16) C (zda zDJ6_numberOfTrailingZeros_0f7a4 30 rfl rfl) (by decide) (by decide))
    (zr_n zr_0))))))))))))))))
  (zrs_c (zr_s (zq_iushr C (zda zDJ6_numberOfTrailingZeros_0f7a4 32 rfl rfl))
    (zr_s (zq_istoreN_n C (zda zDJ6_numberOfTrailingZeros_0f7a4 33 rfl rfl) rfl (by decide))
    (zr_s (zq_iload_n C (zda zDJ6_numberOfTrailingZeros_0f7a4 34 rfl rfl) rfl)
    (zr_s (zq_sipush (n := .ofNat 256) C (zda zDJ6_numberOfTrailingZeros_0f7a4 35 rfl rfl) (by decide) (by decide))
    (zr_n (zr_n (zr_s (zqr_le C (zda zDJ6_numberOfTrailingZeros_0f7a4 38 rfl rfl) (by decide))
    (zr_n (zr_n (zr_s (zk_inc (n := .ofNat 8) C (zda zDJ6_numberOfTrailingZeros_0f7a4 41 rfl rfl) (by decide) (by decide))
    (zr_n (zr_n (zr_s (zq_iload_n C (zda zDJ6_numberOfTrailingZeros_0f7a4 44 rfl rfl) rfl)
    (zr_s (zq_bipush (n := .ofNat 8) C (zda zDJ6_numberOfTrailingZeros_0f7a4 45 rfl rfl) (by decide) (by decide))
    (zr_n (zr_s (zq_iushr C (zda zDJ6_numberOfTrailingZeros_0f7a4 47 rfl rfl))
    zr_0))))))))))))))))
  (zrs_c (zr_s (zq_istoreN_n C (zda zDJ6_numberOfTrailingZeros_0f7a4 48 rfl rfl) rfl (by decide))
    (zr_s (zq_iload_n C (zda zDJ6_numberOfTrailingZeros_0f7a4 49 rfl rfl) rfl)
    (zr_s (zq_bipush (n := .ofNat 16) C (zda zDJ6_numberOfTrailingZeros_0f7a4 50 rfl rfl) (by decide) (by decide))
    (zr_n (zr_s (zqr_le C (zda zDJ6_numberOfTrailingZeros_0f7a4 52 rfl rfl) (by decide))
    (zr_n (zr_n (zr_s (zk_inc (n := .ofNat 4) C (zda zDJ6_numberOfTrailingZeros_0f7a4 55 rfl rfl) (by decide) (by decide))
    (zr_n (zr_n (zr_s (zq_iload_n C (zda zDJ6_numberOfTrailingZeros_0f7a4 58 rfl rfl) rfl)
    (zr_s (zq_iconst (n := .ofNat 4) C (zda zDJ6_numberOfTrailingZeros_0f7a4 59 rfl rfl) (by decide))
    (zr_s (zq_iushr C (zda zDJ6_numberOfTrailingZeros_0f7a4 60 rfl rfl))
    (zr_s (zq_istoreN_n C (zda zDJ6_numberOfTrailingZeros_0f7a4 61 rfl rfl) rfl (by decide))
    (zr_s (zq_iload_n C (zda zDJ6_numberOfTrailingZeros_0f7a4 62 rfl rfl) rfl)
    (zr_s (zq_iconst (n := .ofNat 4) C (zda zDJ6_numberOfTrailingZeros_0f7a4 63 rfl rfl) (by decide))
    zr_0))))))))))))))))
  (zrs_c (zr_s (zqr_le C (zda zDJ6_numberOfTrailingZeros_0f7a4 64 rfl rfl) (by decide))
    (zr_n (zr_n (zr_s (zk_inc (n := .ofNat 2) C (zda zDJ6_numberOfTrailingZeros_0f7a4 67 rfl rfl) (by decide) (by decide))
    (zr_n (zr_n (zr_s (zq_iload_n C (zda zDJ6_numberOfTrailingZeros_0f7a4 70 rfl rfl) rfl)
    (zr_s (zq_iconst (n := .ofNat 2) C (zda zDJ6_numberOfTrailingZeros_0f7a4 71 rfl rfl) (by decide))
    (zr_s (zq_iushr C (zda zDJ6_numberOfTrailingZeros_0f7a4 72 rfl rfl))
    (zr_s (zq_istoreN_n C (zda zDJ6_numberOfTrailingZeros_0f7a4 73 rfl rfl) rfl (by decide))
    (zr_s (zq_iload_n C (zda zDJ6_numberOfTrailingZeros_0f7a4 74 rfl rfl) rfl)
    (zr_s (zq_iload_n C (zda zDJ6_numberOfTrailingZeros_0f7a4 75 rfl rfl) rfl)
    (zr_s (zq_iconst (n := .ofNat 1) C (zda zDJ6_numberOfTrailingZeros_0f7a4 76 rfl rfl) (by decide))
    (zr_s (zq_iushr C (zda zDJ6_numberOfTrailingZeros_0f7a4 77 rfl rfl))
    (zr_s (zk_add C (zda zDJ6_numberOfTrailingZeros_0f7a4 78 rfl rfl))
    (zr_s (zk_ret1 (ty := .int) C hbc hbs rfl rfl (Or.inl ⟨(zda zDJ6_numberOfTrailingZeros_0f7a4 79 rfl rfl), by decide⟩))
    zr_0))))))))))))))))
  zrs_0)))))
set_option maxRecDepth 100000 in
set_option maxHeartbeats 4000000 in
theorem okJ7_fill_53178 {l : Launch} {D : va_G} {tys : List (ClassId × FieldType)} {o : zO} {z : Nat} (E : zEnv tys) : zCodeOk l D vwCl tys o z (zXX o z) zTs zprog mJ7_fill_53178 := by
  intro p e R s m args below meth c0 Q ws0 hbc hbs C pc sem h
  replace hbc : R.cells = 0 := hbc
  replace hbs : R.slots = 0 := hbs
  replace C : zCx p R s m args meth c0 D vwCl tys z (zXX o z) zTs RJ7 cJ7_fill_53178 4 "fill" := C
  refine zRows_get (P := fun pc sem => zOp p l e R s m args below meth c0 Q D vwCl tys o z (zXX o z) zTs zprog ws0 4 cJ7_fill_53178 none pc sem) (c := kJ7_fill_53178) ?_ h
  unfold kJ7_fill_53178
  exact (zrs_c (zr_s (zq_iconst (n := .ofNat 0) C (zda zDJ7_fill_53178 0 rfl rfl) (by decide))
    (zr_s (zq_istoreN_n C (zda zDJ7_fill_53178 1 rfl rfl) rfl (by decide))
    (zr_s (zq_aload_n C (zda zDJ7_fill_53178 2 rfl rfl) rfl)
    (zr_s (zk_len C (zda zDJ7_fill_53178 3 rfl rfl))
    (zr_s (zq_istoreN_n C (zda zDJ7_fill_53178 4 rfl rfl) rfl (by decide))
    (zr_s (zq_iload_n C (zda zDJ7_fill_53178 5 rfl rfl) rfl)
    (zr_s (zq_iload_n C (zda zDJ7_fill_53178 6 rfl rfl) rfl)
    (zr_s (zqr_ge C (zda zDJ7_fill_53178 7 rfl rfl) (by decide))
    (zr_n (zr_n (zr_s (zq_aload_n C (zda zDJ7_fill_53178 10 rfl rfl) rfl)
    (zr_s (zq_iload_n C (zda zDJ7_fill_53178 11 rfl rfl) rfl)
    (zr_s (zq_iload_n C (zda zDJ7_fill_53178 12 rfl rfl) rfl)
    (zr_s (zk_iast C (zda zDJ7_fill_53178 13 rfl rfl))
    (zr_s (zk_inc (n := .ofNat 1) C (zda zDJ7_fill_53178 14 rfl rfl) (by decide) (by decide))
    (zr_n zr_0))))))))))))))))
  (zrs_c (zr_n (zr_s (zk_goto C (zda zDJ7_fill_53178 17 rfl rfl) (by decide))
    (zr_n (zr_n (zr_s (zk_ret0 C hbc hbs rfl (zda zDJ7_fill_53178 20 rfl rfl))
    zr_0)))))
  zrs_0))
set_option maxRecDepth 100000 in
set_option maxHeartbeats 4000000 in
theorem okJ7_fill_d0a16 {l : Launch} {D : va_G} {tys : List (ClassId × FieldType)} {o : zO} {z : Nat} (E : zEnv tys) : zCodeOk l D vwCl tys o z (zXX o z) zTs zprog mJ7_fill_d0a16 := by
  intro p e R s m args below meth c0 Q ws0 hbc hbs C pc sem h
  replace hbc : R.cells = 0 := hbc
  replace hbs : R.slots = 0 := hbs
  replace C : zCx p R s m args meth c0 D vwCl tys z (zXX o z) zTs RJ7 cJ7_fill_d0a16 5 "fill" := C
  refine zRows_get (P := fun pc sem => zOp p l e R s m args below meth c0 Q D vwCl tys o z (zXX o z) zTs zprog ws0 5 cJ7_fill_d0a16 none pc sem) (c := kJ7_fill_d0a16) ?_ h
  unfold kJ7_fill_d0a16
  exact (zrs_c (zr_s (zq_iconst (n := .ofNat 0) C (zda zDJ7_fill_d0a16 0 rfl rfl) (by decide))
    (zr_s (zq_istoreN_n C (zda zDJ7_fill_d0a16 1 rfl rfl) rfl (by decide))
    (zr_s (zq_aload_n C (zda zDJ7_fill_d0a16 2 rfl rfl) rfl)
    (zr_s (zk_len C (zda zDJ7_fill_d0a16 3 rfl rfl))
    (zr_s (zq_istoreN C (zda zDJ7_fill_d0a16 4 rfl rfl) (by decide))
    (zr_n (zr_s (zq_iload_n C (zda zDJ7_fill_d0a16 6 rfl rfl) rfl)
    (zr_s (zq_iload C (zda zDJ7_fill_d0a16 7 rfl rfl))
    (zr_n (zr_s (zqr_ge C (zda zDJ7_fill_d0a16 9 rfl rfl) (by decide))
    (zr_n (zr_n (zr_s (zq_aload_n C (zda zDJ7_fill_d0a16 12 rfl rfl) rfl)
    (zr_s (zq_iload_n C (zda zDJ7_fill_d0a16 13 rfl rfl) rfl)
    (zr_s (zq_lload_n C (zda zDJ7_fill_d0a16 14 rfl rfl) rfl)
    (zr_s (zk_last C (zda zDJ7_fill_d0a16 15 rfl rfl))
    zr_0))))))))))))))))
  (zrs_c (zr_s (zk_inc (n := .ofNat 1) C (zda zDJ7_fill_d0a16 16 rfl rfl) (by decide) (by decide))
    (zr_n (zr_n (zr_s (zk_goto C (zda zDJ7_fill_d0a16 19 rfl rfl) (by decide))
    (zr_n (zr_n (zr_s (zk_ret0 C hbc hbs rfl (zda zDJ7_fill_d0a16 22 rfl rfl))
    zr_0)))))))
  zrs_0))
set_option maxRecDepth 100000 in
set_option maxHeartbeats 4000000 in
theorem okX0_areTwo {l : Launch} {D : va_G} {tys : List (ClassId × FieldType)} {o : zO} {z : Nat} (E : zEnv tys) : zCodeOk l D vwCl tys o z (zXX o z) zTs zprog mX0_areTwo := by
  intro p e R s m args below meth c0 Q ws0 hbc hbs C pc sem h
  replace hbc : R.cells = 0 := hbc
  replace hbs : R.slots = 0 := hbs
  replace C : zCx p R s m args meth c0 D vwCl tys z (zXX o z) zTs RX0 cX0_areTwo 3 "areTwo" := C
  refine zRows_get (P := fun pc sem => zOp p l e R s m args below meth c0 Q D vwCl tys o z (zXX o z) zTs zprog ws0 3 cX0_areTwo (some .boolean) pc sem) (c := kX0_areTwo) ?_ h
  unfold kX0_areTwo
  exact (zrs_c (zr_s (zq_aload_n C (zda zDX0_areTwo 0 rfl rfl) rfl)
    (zr_s (zq_iload_n C (zda zDX0_areTwo 1 rfl rfl) rfl)
    (zr_s (zk_callV (n := 1) C zXX_ok zTs_good hbc hbs (show zget zprog 21 = some mX0_has from rfl) rfl rfl (show vwCl[0]? = some (RX0, TX0, 12) from rfl) zw550 zw636 zw549 zs23 zw3 (by decide +kernel) (zda zDX0_areTwo 2 rfl rfl))
    (zr_n (zr_n (zr_s (zqr_if_eq C (zda zDX0_areTwo 5 rfl rfl) (by decide))
    (zr_n (zr_n (zr_s (zq_aload_n C (zda zDX0_areTwo 8 rfl rfl) rfl)
    (zr_s (zq_iload_n C (zda zDX0_areTwo 9 rfl rfl) rfl)
    (zr_s (zk_callV (n := 1) C zXX_ok zTs_good hbc hbs (show zget zprog 21 = some mX0_has from rfl) rfl rfl (show vwCl[0]? = some (RX0, TX0, 12) from rfl) zw550 zw636 zw549 zs23 zw3 (by decide +kernel) (zda zDX0_areTwo 10 rfl rfl))
    (zr_n (zr_n (zr_s (zqr_if_eq C (zda zDX0_areTwo 13 rfl rfl) (by decide))
    (zr_n (zr_n zr_0))))))))))))))))
  (zrs_c (zr_s (zq_iload_n C (zda zDX0_areTwo 16 rfl rfl) rfl)
    (zr_s (zq_iload_n C (zda zDX0_areTwo 17 rfl rfl) rfl)
    (zr_s (zqr_eq C (zda zDX0_areTwo 18 rfl rfl) (by decide))
    (zr_n (zr_n (zr_s (zq_iconst (n := .ofNat 1) C (zda zDX0_areTwo 21 rfl rfl) (by decide))
    (zr_s (zk_goto C (zda zDX0_areTwo 22 rfl rfl) (by decide))
    (zr_n (zr_n (zr_s (zq_iconst (n := .ofNat 0) C (zda zDX0_areTwo 25 rfl rfl) (by decide))
    (zr_s (zk_ret1 (ty := .boolean) C hbc hbs rfl rfl (Or.inl ⟨(zda zDX0_areTwo 26 rfl rfl), by decide⟩))
    zr_0)))))))))))
  zrs_0))
set_option maxRecDepth 100000 in
set_option maxHeartbeats 4000000 in
theorem okX0_differ {l : Launch} {D : va_G} {tys : List (ClassId × FieldType)} {o : zO} {z : Nat} (E : zEnv tys) : zCodeOk l D vwCl tys o z (zXX o z) zTs zprog mX0_differ := by
  intro p e R s m args below meth c0 Q ws0 hbc hbs C pc sem h
  replace hbc : R.cells = 0 := hbc
  replace hbs : R.slots = 0 := hbs
  replace C : zCx p R s m args meth c0 D vwCl tys z (zXX o z) zTs RX0 cX0_differ 3 "differ" := C
  refine zRows_get (P := fun pc sem => zOp p l e R s m args below meth c0 Q D vwCl tys o z (zXX o z) zTs zprog ws0 3 cX0_differ (some .int) pc sem) (c := kX0_differ) ?_ h
  unfold kX0_differ
  exact (zrs_c (zr_s (zq_aload_n C (zda zDX0_differ 0 rfl rfl) rfl)
    (zr_s (zq_get (k := 2) C (zda zDX0_differ 1 rfl rfl) (show vwCl[0]? = some (RX0, TX0, 12) from rfl) zinX0 (by decide) zw250)
    (zr_n (zr_n (zr_s (zq_iload_n C (zda zDX0_differ 4 rfl rfl) rfl)
    (zr_s (zk_iald C (zda zDX0_differ 5 rfl rfl))
    (zr_s (zq_aload_n C (zda zDX0_differ 6 rfl rfl) rfl)
    (zr_s (zq_get (k := 2) C (zda zDX0_differ 7 rfl rfl) (show vwCl[0]? = some (RX0, TX0, 12) from rfl) zinX0 (by decide) zw250)
    (zr_n (zr_n (zr_s (zq_iload_n C (zda zDX0_differ 10 rfl rfl) rfl)
    (zr_s (zk_iald C (zda zDX0_differ 11 rfl rfl))
    (zr_s (zk_sub C (zda zDX0_differ 12 rfl rfl))
    (zr_s (zqb_abs C hbc hbs (zda zDX0_differ 13 rfl rfl) zw679 zw680 zw9 zw681)
    (zr_n (zr_n zr_0))))))))))))))))
  (zrs_c (zr_s (zk_ret1 (ty := .int) C hbc hbs rfl rfl (Or.inl ⟨(zda zDX0_differ 16 rfl rfl), by decide⟩))
    zr_0)
  zrs_0))
set_option maxRecDepth 100000 in
set_option maxHeartbeats 4000000 in
theorem okX0_hardBy {l : Launch} {D : va_G} {tys : List (ClassId × FieldType)} {o : zO} {z : Nat} (E : zEnv tys) : zCodeOk l D vwCl tys o z (zXX o z) zTs zprog mX0_hardBy := by
  intro p e R s m args below meth c0 Q ws0 hbc hbs C pc sem h
  replace hbc : R.cells = 0 := hbc
  replace hbs : R.slots = 0 := hbs
  replace C : zCx p R s m args meth c0 D vwCl tys z (zXX o z) zTs RX0 cX0_hardBy 5 "hardBy" := C
  refine zRows_get (P := fun pc sem => zOp p l e R s m args below meth c0 Q D vwCl tys o z (zXX o z) zTs zprog ws0 5 cX0_hardBy (some .int) pc sem) (c := kX0_hardBy) ?_ h
  unfold kX0_hardBy
  exact (zrs_c (zr_s (zq_aload_n C (zda zDX0_hardBy 0 rfl rfl) rfl)
    (zr_s (zq_get (k := 3) C (zda zDX0_hardBy 1 rfl rfl) (show vwCl[0]? = some (RX0, TX0, 12) from rfl) zinX0 (by decide) zw252)
    (zr_n (zr_n (zr_s (zq_iconst (n := .ofNat 0) C (zda zDX0_hardBy 4 rfl rfl) (by decide))
    (zr_s (zq_iload C (zda zDX0_hardBy 5 rfl rfl))
    (zr_n (zr_s (zk_iast C (zda zDX0_hardBy 7 rfl rfl))
    (zr_s (zq_aload_n C (zda zDX0_hardBy 8 rfl rfl) rfl)
    (zr_s (zq_get (k := 3) C (zda zDX0_hardBy 9 rfl rfl) (show vwCl[0]? = some (RX0, TX0, 12) from rfl) zinX0 (by decide) zw252)
    (zr_n (zr_n (zr_s (zq_iconst (n := .ofNat 1) C (zda zDX0_hardBy 12 rfl rfl) (by decide))
    (zr_s (zq_aload_n C (zda zDX0_hardBy 13 rfl rfl) rfl)
    (zr_s (zq_getN (k := 1) C (zda zDX0_hardBy 14 rfl rfl) (show vwCl[5]? = some (RX5, TX5, 6) from rfl) zinX5 (by decide) (fun U H h => zn20 h))
    (zr_n zr_0))))))))))))))))
  (zrs_c (zr_n (zr_s (zq_iload_n C (zda zDX0_hardBy 17 rfl rfl) rfl)
    (zr_s (zk_iald C (zda zDX0_hardBy 18 rfl rfl))
    (zr_s (zk_iast C (zda zDX0_hardBy 19 rfl rfl))
    (zr_s (zq_aload_n C (zda zDX0_hardBy 20 rfl rfl) rfl)
    (zr_s (zq_get (k := 3) C (zda zDX0_hardBy 21 rfl rfl) (show vwCl[0]? = some (RX0, TX0, 12) from rfl) zinX0 (by decide) zw252)
    (zr_n (zr_n (zr_s (zq_iconst (n := .ofNat 2) C (zda zDX0_hardBy 24 rfl rfl) (by decide))
    (zr_s (zq_aload_n C (zda zDX0_hardBy 25 rfl rfl) rfl)
    (zr_s (zq_get (k := 2) C (zda zDX0_hardBy 26 rfl rfl) (show vwCl[0]? = some (RX0, TX0, 12) from rfl) zinX0 (by decide) zw250)
    (zr_n (zr_n (zr_s (zq_iload_n C (zda zDX0_hardBy 29 rfl rfl) rfl)
    (zr_s (zk_iald C (zda zDX0_hardBy 30 rfl rfl))
    (zr_s (zk_iast C (zda zDX0_hardBy 31 rfl rfl))
    zr_0))))))))))))))))
  (zrs_c (zr_s (zq_aload_n C (zda zDX0_hardBy 32 rfl rfl) rfl)
    (zr_s (zq_get (k := 3) C (zda zDX0_hardBy 33 rfl rfl) (show vwCl[0]? = some (RX0, TX0, 12) from rfl) zinX0 (by decide) zw252)
    (zr_n (zr_n (zr_s (zq_iconst (n := .ofNat 3) C (zda zDX0_hardBy 36 rfl rfl) (by decide))
    (zr_s (zq_aload_n C (zda zDX0_hardBy 37 rfl rfl) rfl)
    (zr_s (zq_get (k := 1) C (zda zDX0_hardBy 38 rfl rfl) (show vwCl[0]? = some (RX0, TX0, 12) from rfl) zinX0 (by decide) zw248)
    (zr_n (zr_n (zr_s (zq_iload_n C (zda zDX0_hardBy 41 rfl rfl) rfl)
    (zr_s (zk_iald C (zda zDX0_hardBy 42 rfl rfl))
    (zr_s (zk_iast C (zda zDX0_hardBy 43 rfl rfl))
    (zr_s (zq_aload_n C (zda zDX0_hardBy 44 rfl rfl) rfl)
    (zr_s (zq_get (k := 3) C (zda zDX0_hardBy 45 rfl rfl) (show vwCl[0]? = some (RX0, TX0, 12) from rfl) zinX0 (by decide) zw252)
    (zr_n (zr_n zr_0))))))))))))))))
  (zrs_c (zr_s (zq_iconst (n := .ofNat 4) C (zda zDX0_hardBy 48 rfl rfl) (by decide))
    (zr_s (zq_iload_n C (zda zDX0_hardBy 49 rfl rfl) rfl)
    (zr_s (zk_iast C (zda zDX0_hardBy 50 rfl rfl))
    (zr_s (zq_aload_n C (zda zDX0_hardBy 51 rfl rfl) rfl)
    (zr_s (zq_get (k := 3) C (zda zDX0_hardBy 52 rfl rfl) (show vwCl[0]? = some (RX0, TX0, 12) from rfl) zinX0 (by decide) zw252)
    (zr_n (zr_n (zr_s (zq_iconst (n := .ofNat 5) C (zda zDX0_hardBy 55 rfl rfl) (by decide))
    (zr_s (zq_aload_n C (zda zDX0_hardBy 56 rfl rfl) rfl)
    (zr_s (zq_getN (k := 3) C (zda zDX0_hardBy 57 rfl rfl) (show vwCl[5]? = some (RX5, TX5, 6) from rfl) zinX5 (by decide) (fun U H h => zn22 h))
    (zr_n (zr_n (zr_s (zq_bipush (n := .ofNat 7) C (zda zDX0_hardBy 60 rfl rfl) (by decide) (by decide))
    (zr_n (zr_s (zq_irem C (zda zDX0_hardBy 62 rfl rfl))
    (zr_s (zk_iast C (zda zDX0_hardBy 63 rfl rfl))
    zr_0))))))))))))))))
  (zrs_c (zr_s (zq_aload_n C (zda zDX0_hardBy 64 rfl rfl) rfl)
    (zr_s (zq_get (k := 3) C (zda zDX0_hardBy 65 rfl rfl) (show vwCl[0]? = some (RX0, TX0, 12) from rfl) zinX0 (by decide) zw252)
    (zr_n (zr_n (zr_s (zq_bipush (n := .ofNat 6) C (zda zDX0_hardBy 68 rfl rfl) (by decide) (by decide))
    (zr_n (zr_s (zq_aload_n C (zda zDX0_hardBy 70 rfl rfl) rfl)
    (zr_s (zq_get (k := 0) C (zda zDX0_hardBy 71 rfl rfl) (show vwCl[0]? = some (RX0, TX0, 12) from rfl) zinX0 (by decide) zw246)
    (zr_n (zr_n (zr_s (zq_iload_n C (zda zDX0_hardBy 74 rfl rfl) rfl)
    (zr_s (zk_iald C (zda zDX0_hardBy 75 rfl rfl))
    (zr_s (zk_callS C zXX_ok zTs_good hbc hbs (show zget zprog 14 = some mJ6_bitCount_0f7a4 from rfl) rfl rfl zw564 zw562 zw563 zw21 (by decide +kernel) (zda zDX0_hardBy 76 rfl rfl))
    (zr_n (zr_n (zr_s (zk_iast C (zda zDX0_hardBy 79 rfl rfl))
    zr_0))))))))))))))))
  (zrs_c (zr_s (zq_aload_n C (zda zDX0_hardBy 80 rfl rfl) rfl)
    (zr_s (zq_aload_n C (zda zDX0_hardBy 81 rfl rfl) rfl)
    (zr_s (zq_get (k := 3) C (zda zDX0_hardBy 82 rfl rfl) (show vwCl[0]? = some (RX0, TX0, 12) from rfl) zinX0 (by decide) zw252)
    (zr_n (zr_n (zr_s (zk_callVN (n := 1) C zXX_ok zTs_good hbc hbs (show zget zprog 58 = some mX3_value from rfl) rfl rfl (show vwCl[3]? = some (RX3, TX3, 9) from rfl) zw571 (fun U H h => zn48 h) zw570 zs26 zw4 (by decide +kernel) (zda zDX0_hardBy 85 rfl rfl))
    (zr_n (zr_n (zr_s (zq_iconst (n := .ofNat 0) C (zda zDX0_hardBy 88 rfl rfl) (by decide))
    (zr_s (zq_sipush (n := .ofNat 999) C (zda zDX0_hardBy 89 rfl rfl) (by decide) (by decide))
    (zr_n (zr_n (zr_s (zk_callSN C zXX_ok zTs_good hbc hbs (show zget zprog 107 = some mX7_between from rfl) rfl rfl zw581 (fun U H h => zn49 h) zw580 zw1 (by decide +kernel) (zda zDX0_hardBy 92 rfl rfl))
    (zr_n (zr_n (zr_s (zk_ret1 (ty := .int) C hbc hbs rfl rfl (Or.inl ⟨(zda zDX0_hardBy 95 rfl rfl), by decide⟩))
    zr_0))))))))))))))))
  zrs_0))))))
set_option maxRecDepth 100000 in
set_option maxHeartbeats 4000000 in
theorem okX0_has {l : Launch} {D : va_G} {tys : List (ClassId × FieldType)} {o : zO} {z : Nat} (E : zEnv tys) : zCodeOk l D vwCl tys o z (zXX o z) zTs zprog mX0_has := by
  intro p e R s m args below meth c0 Q ws0 hbc hbs C pc sem h
  replace hbc : R.cells = 0 := hbc
  replace hbs : R.slots = 0 := hbs
  replace C : zCx p R s m args meth c0 D vwCl tys z (zXX o z) zTs RX0 cX0_has 2 "has" := C
  refine zRows_get (P := fun pc sem => zOp p l e R s m args below meth c0 Q D vwCl tys o z (zXX o z) zTs zprog ws0 2 cX0_has (some .boolean) pc sem) (c := kX0_has) ?_ h
  unfold kX0_has
  exact (zrs_c (zr_s (zq_iload_n C (zda zDX0_has 0 rfl rfl) rfl)
    (zr_s (zqr_if_lt C (zda zDX0_has 1 rfl rfl) (by decide))
    (zr_n (zr_n (zr_s (zq_iload_n C (zda zDX0_has 4 rfl rfl) rfl)
    (zr_s (zq_aload_n C (zda zDX0_has 5 rfl rfl) rfl)
    (zr_s (zq_get (k := 6) C (zda zDX0_has 6 rfl rfl) (show vwCl[0]? = some (RX0, TX0, 12) from rfl) zinX0 (by decide) zw255)
    (zr_n (zr_n (zr_s (zqr_ge C (zda zDX0_has 9 rfl rfl) (by decide))
    (zr_n (zr_n (zr_s (zq_iconst (n := .ofNat 1) C (zda zDX0_has 12 rfl rfl) (by decide))
    (zr_s (zk_goto C (zda zDX0_has 13 rfl rfl) (by decide))
    (zr_n (zr_n zr_0))))))))))))))))
  (zrs_c (zr_s (zq_iconst (n := .ofNat 0) C (zda zDX0_has 16 rfl rfl) (by decide))
    (zr_s (zk_ret1 (ty := .boolean) C hbc hbs rfl rfl (Or.inl ⟨(zda zDX0_has 17 rfl rfl), by decide⟩))
    zr_0))
  zrs_0))
set_option maxRecDepth 100000 in
set_option maxHeartbeats 4000000 in
theorem okX0_init {l : Launch} {D : va_G} {tys : List (ClassId × FieldType)} {o : zO} {z : Nat} (E : zEnv tys) : zCodeOk l D vwCl tys o z (zXX o z) zTs zprog mX0_init := by
  intro p e R s m args below meth c0 Q ws0 hbc hbs C pc sem h
  replace hbc : R.cells = 11 := hbc
  replace hbs : R.slots = 181 := hbs
  replace C : zCx p R s m args meth c0 D vwCl tys z (zXX o z) zTs RX0 cX0_init 1 "<init>" := C
  refine zRows_get (P := fun pc sem => zOp p l e R s m args below meth c0 Q D vwCl tys o z (zXX o z) zTs zprog ws0 1 cX0_init none pc sem) (c := kX0_init) ?_ h
  unfold kX0_init
  exact (zrs_c (zr_s (zq_aload_n C (zda zDX0_init 0 rfl rfl) rfl)
    (zr_s (zk_objInit C (zda zDX0_init 1 rfl rfl) zw53 zw29 zw30)
    (zr_n (zr_n (zr_s (zq_aload_n C (zda zDX0_init 4 rfl rfl) rfl)
    (zr_s (zq_bipush (n := .ofNat 8) C (zda zDX0_init 5 rfl rfl) (by decide) (by decide))
    (zr_n (zr_s (zq_newI C hbc hbs (zda zDX0_init 7 rfl rfl) zw47 E.1)
    (zr_n (zr_s (zq_putF (k := 0) C (zda zDX0_init 9 rfl rfl) (show vwCl[0]? = some (RX0, TX0, 12) from rfl) zinX0 tyX0 tyX0_ok nmX0 (by decide) zw246 rfl rfl rfl (ty := (.array .int)) (by decide +kernel) rfl)
    (zr_n (zr_n (zr_s (zq_aload_n C (zda zDX0_init 12 rfl rfl) rfl)
    (zr_s (zq_bipush (n := .ofNat 8) C (zda zDX0_init 13 rfl rfl) (by decide) (by decide))
    (zr_n (zr_s (zq_newI C hbc hbs (zda zDX0_init 15 rfl rfl) zw47 E.1)
    zr_0))))))))))))))))
  (zrs_c (zr_n (zr_s (zq_putF (k := 1) C (zda zDX0_init 17 rfl rfl) (show vwCl[0]? = some (RX0, TX0, 12) from rfl) zinX0 tyX0 tyX0_ok nmX0 (by decide) zw248 rfl rfl rfl (ty := (.array .int)) (by decide +kernel) rfl)
    (zr_n (zr_n (zr_s (zq_aload_n C (zda zDX0_init 20 rfl rfl) rfl)
    (zr_s (zq_bipush (n := .ofNat 8) C (zda zDX0_init 21 rfl rfl) (by decide) (by decide))
    (zr_n (zr_s (zq_newI C hbc hbs (zda zDX0_init 23 rfl rfl) zw47 E.1)
    (zr_n (zr_s (zq_putF (k := 2) C (zda zDX0_init 25 rfl rfl) (show vwCl[0]? = some (RX0, TX0, 12) from rfl) zinX0 tyX0 tyX0_ok nmX0 (by decide) zw250 rfl rfl rfl (ty := (.array .int)) (by decide +kernel) rfl)
    (zr_n (zr_n (zr_s (zq_aload_n C (zda zDX0_init 28 rfl rfl) rfl)
    (zr_s (zq_bipush (n := .ofNat 7) C (zda zDX0_init 29 rfl rfl) (by decide) (by decide))
    (zr_n (zr_s (zq_newI C hbc hbs (zda zDX0_init 31 rfl rfl) zw47 E.1)
    zr_0))))))))))))))))
  (zrs_c (zr_n (zr_s (zq_putF (k := 3) C (zda zDX0_init 33 rfl rfl) (show vwCl[0]? = some (RX0, TX0, 12) from rfl) zinX0 tyX0 tyX0_ok nmX0 (by decide) zw252 rfl rfl rfl (ty := (.array .int)) (by decide +kernel) rfl)
    (zr_n (zr_n (zr_s (zq_aload_n C (zda zDX0_init 36 rfl rfl) rfl)
    (zr_s (zq_bipush (n := .ofNat 8) C (zda zDX0_init 37 rfl rfl) (by decide) (by decide))
    (zr_n (zr_s (zq_newI C hbc hbs (zda zDX0_init 39 rfl rfl) zw47 E.1)
    (zr_n (zr_s (zq_putF (k := 4) C (zda zDX0_init 41 rfl rfl) (show vwCl[0]? = some (RX0, TX0, 12) from rfl) zinX0 tyX0 tyX0_ok nmX0 (by decide) zw253 rfl rfl rfl (ty := (.array .int)) (by decide +kernel) rfl)
    (zr_n (zr_n (zr_s (zq_aload_n C (zda zDX0_init 44 rfl rfl) rfl)
    (zr_s (zq_bipush (n := .ofNat 8) C (zda zDX0_init 45 rfl rfl) (by decide) (by decide))
    (zr_n (zr_s (zq_newI C hbc hbs (zda zDX0_init 47 rfl rfl) zw47 E.1)
    zr_0))))))))))))))))
  (zrs_c (zr_n (zr_s (zq_putF (k := 5) C (zda zDX0_init 49 rfl rfl) (show vwCl[0]? = some (RX0, TX0, 12) from rfl) zinX0 tyX0 tyX0_ok nmX0 (by decide) zw254 rfl rfl rfl (ty := (.array .int)) (by decide +kernel) rfl)
    (zr_n (zr_n (zr_s (zq_aload_n C (zda zDX0_init 52 rfl rfl) rfl)
    (zr_s (zq_bipush (n := .ofNat 8) C (zda zDX0_init 53 rfl rfl) (by decide) (by decide))
    (zr_n (zr_s (zq_put (k := 7) C (zda zDX0_init 55 rfl rfl) (show vwCl[0]? = some (RX0, TX0, 12) from rfl) zinX0 tyX0 tyX0_ok nmX0 (by decide) zw257 rfl (ty := .int) (by decide +kernel) rfl)
    (zr_n (zr_n (zr_s (zq_aload_n C (zda zDX0_init 58 rfl rfl) rfl)
    (zr_s (zq_iconst (n := .ofNat 4) C (zda zDX0_init 59 rfl rfl) (by decide))
    (zr_s (zq_put (k := 8) C (zda zDX0_init 60 rfl rfl) (show vwCl[0]? = some (RX0, TX0, 12) from rfl) zinX0 tyX0 tyX0_ok nmX0 (by decide) zw259 rfl (ty := .int) (by decide +kernel) rfl)
    (zr_n (zr_n (zr_s (zq_aload_n C (zda zDX0_init 63 rfl rfl) rfl)
    zr_0))))))))))))))))
  (zrs_c (zr_s (zk_new C hbc hbs (zda zDX0_init 64 rfl rfl) (show vwCl[3]? = some (RX3, TX3, 9) from rfl) zinX3 tyX3 tyX3_ok zw54 zw55 zw4 zdfX3 (fun ad => zfrX3 o ad))
    (zr_n (zr_n (zr_s (zk_dup C (zda zDX0_init 67 rfl rfl))
    (zr_s (zk_callIN (n := 0) C zXX_ok zTs_good hbc hbs (show zget zprog 48 = some mX3_init from rfl) rfl rfl rfl zw58 (fun U H h => zn5 h) zw57 zw4 rfl (by decide +kernel) (zda zDX0_init 68 rfl rfl))
    (zr_n (zr_n (zr_s (zq_put (k := 9) C (zda zDX0_init 71 rfl rfl) (show vwCl[0]? = some (RX0, TX0, 12) from rfl) zinX0 tyX0 tyX0_ok nmX0 (by decide) zw261 rfl (ty := (.object "RockingHorse$Rule")) (by decide +kernel) rfl)
    (zr_n (zr_n (zr_s (zk_ret0 C hbc hbs rfl (zda zDX0_init 74 rfl rfl))
    zr_0)))))))))))
  zrs_0)))))
set_option maxRecDepth 100000 in
set_option maxHeartbeats 4000000 in
theorem okX0_isAble {l : Launch} {D : va_G} {tys : List (ClassId × FieldType)} {o : zO} {z : Nat} (E : zEnv tys) : zCodeOk l D vwCl tys o z (zXX o z) zTs zprog mX0_isAble := by
  intro p e R s m args below meth c0 Q ws0 hbc hbs C pc sem h
  replace hbc : R.cells = 0 := hbc
  replace hbs : R.slots = 0 := hbs
  replace C : zCx p R s m args meth c0 D vwCl tys z (zXX o z) zTs RX0 cX0_isAble 4 "isAble" := C
  refine zRows_get (P := fun pc sem => zOp p l e R s m args below meth c0 Q D vwCl tys o z (zXX o z) zTs zprog ws0 4 cX0_isAble (some .boolean) pc sem) (c := kX0_isAble) ?_ h
  unfold kX0_isAble
  exact (zrs_c (zr_s (zq_aload_n C (zda zDX0_isAble 0 rfl rfl) rfl)
    (zr_s (zq_iload_n C (zda zDX0_isAble 1 rfl rfl) rfl)
    (zr_s (zk_callV (n := 1) C zXX_ok zTs_good hbc hbs (show zget zprog 21 = some mX0_has from rfl) rfl rfl (show vwCl[0]? = some (RX0, TX0, 12) from rfl) zw550 zw636 zw549 zs23 zw3 (by decide +kernel) (zda zDX0_isAble 2 rfl rfl))
    (zr_n (zr_n (zr_s (zqr_if_eq C (zda zDX0_isAble 5 rfl rfl) (by decide))
    (zr_n (zr_n (zr_s (zq_aload_n C (zda zDX0_isAble 8 rfl rfl) rfl)
    (zr_s (zq_get (k := 0) C (zda zDX0_isAble 9 rfl rfl) (show vwCl[0]? = some (RX0, TX0, 12) from rfl) zinX0 (by decide) zw246)
    (zr_n (zr_n (zr_s (zq_iload_n C (zda zDX0_isAble 12 rfl rfl) rfl)
    (zr_s (zk_iald C (zda zDX0_isAble 13 rfl rfl))
    (zr_s (zq_iload_n C (zda zDX0_isAble 14 rfl rfl) rfl)
    (zr_s (zq_ishr C (zda zDX0_isAble 15 rfl rfl))
    zr_0))))))))))))))))
  (zrs_c (zr_s (zq_iconst (n := .ofNat 1) C (zda zDX0_isAble 16 rfl rfl) (by decide))
    (zr_s (zqb_and C (zda zDX0_isAble 17 rfl rfl))
    (zr_s (zq_iconst (n := .ofNat 1) C (zda zDX0_isAble 18 rfl rfl) (by decide))
    (zr_s (zqr_ne C (zda zDX0_isAble 19 rfl rfl) (by decide))
    (zr_n (zr_n (zr_s (zq_aload_n C (zda zDX0_isAble 22 rfl rfl) rfl)
    (zr_s (zq_iload_n C (zda zDX0_isAble 23 rfl rfl) rfl)
    (zr_s (zk_callVN (n := 1) C zXX_ok zTs_good hbc hbs (show zget zprog 88 = some mX5_isIll from rfl) rfl rfl (show vwCl[5]? = some (RX5, TX5, 6) from rfl) zw670 (fun U H h => zn58 h) zw669 zs39 zw11 (by decide +kernel) (zda zDX0_isAble 24 rfl rfl))
    (zr_n (zr_n (zr_s (zqr_if_ne C (zda zDX0_isAble 27 rfl rfl) (by decide))
    (zr_n (zr_n (zr_s (zq_iconst (n := .ofNat 1) C (zda zDX0_isAble 30 rfl rfl) (by decide))
    (zr_s (zk_goto C (zda zDX0_isAble 31 rfl rfl) (by decide))
    zr_0))))))))))))))))
  (zrs_c (zr_n (zr_n (zr_s (zq_iconst (n := .ofNat 0) C (zda zDX0_isAble 34 rfl rfl) (by decide))
    (zr_s (zk_ret1 (ty := .boolean) C hbc hbs rfl rfl (Or.inl ⟨(zda zDX0_isAble 35 rfl rfl), by decide⟩))
    zr_0))))
  zrs_0)))
set_option maxRecDepth 100000 in
set_option maxHeartbeats 4000000 in
theorem okX0_isSomebodyOrNobody {l : Launch} {D : va_G} {tys : List (ClassId × FieldType)} {o : zO} {z : Nat} (E : zEnv tys) : zCodeOk l D vwCl tys o z (zXX o z) zTs zprog mX0_isSomebodyOrNobody := by
  intro p e R s m args below meth c0 Q ws0 hbc hbs C pc sem h
  replace hbc : R.cells = 0 := hbc
  replace hbs : R.slots = 0 := hbs
  replace C : zCx p R s m args meth c0 D vwCl tys z (zXX o z) zTs RX0 cX0_isSomebodyOrNobody 2 "isSomebodyOrNobody" := C
  refine zRows_get (P := fun pc sem => zOp p l e R s m args below meth c0 Q D vwCl tys o z (zXX o z) zTs zprog ws0 2 cX0_isSomebodyOrNobody (some .boolean) pc sem) (c := kX0_isSomebodyOrNobody) ?_ h
  unfold kX0_isSomebodyOrNobody
  exact (zrs_c (zr_s (zq_iload_n C (zda zDX0_isSomebodyOrNobody 0 rfl rfl) rfl)
    (zr_s (zq_iconst (n := .negSucc 0) C (zda zDX0_isSomebodyOrNobody 1 rfl rfl) (by decide))
    (zr_s (zqr_eq C (zda zDX0_isSomebodyOrNobody 2 rfl rfl) (by decide))
    (zr_n (zr_n (zr_s (zq_aload_n C (zda zDX0_isSomebodyOrNobody 5 rfl rfl) rfl)
    (zr_s (zq_iload_n C (zda zDX0_isSomebodyOrNobody 6 rfl rfl) rfl)
    (zr_s (zk_callV (n := 1) C zXX_ok zTs_good hbc hbs (show zget zprog 21 = some mX0_has from rfl) rfl rfl (show vwCl[0]? = some (RX0, TX0, 12) from rfl) zw550 zw636 zw549 zs23 zw3 (by decide +kernel) (zda zDX0_isSomebodyOrNobody 7 rfl rfl))
    (zr_n (zr_n (zr_s (zqr_if_eq C (zda zDX0_isSomebodyOrNobody 10 rfl rfl) (by decide))
    (zr_n (zr_n (zr_s (zq_iconst (n := .ofNat 1) C (zda zDX0_isSomebodyOrNobody 13 rfl rfl) (by decide))
    (zr_s (zk_goto C (zda zDX0_isSomebodyOrNobody 14 rfl rfl) (by decide))
    (zr_n zr_0))))))))))))))))
  (zrs_c (zr_n (zr_s (zq_iconst (n := .ofNat 0) C (zda zDX0_isSomebodyOrNobody 17 rfl rfl) (by decide))
    (zr_s (zk_ret1 (ty := .boolean) C hbc hbs rfl rfl (Or.inl ⟨(zda zDX0_isSomebodyOrNobody 18 rfl rfl), by decide⟩))
    zr_0)))
  zrs_0))
set_option maxRecDepth 100000 in
set_option maxHeartbeats 4000000 in
theorem okX0_pass {l : Launch} {D : va_G} {tys : List (ClassId × FieldType)} {o : zO} {z : Nat} (E : zEnv tys) : zCodeOk l D vwCl tys o z (zXX o z) zTs zprog mX0_pass := by
  intro p e R s m args below meth c0 Q ws0 hbc hbs C pc sem h
  replace hbc : R.cells = 0 := hbc
  replace hbs : R.slots = 0 := hbs
  replace C : zCx p R s m args meth c0 D vwCl tys z (zXX o z) zTs RX0 cX0_pass 4 "pass" := C
  refine zRows_get (P := fun pc sem => zOp p l e R s m args below meth c0 Q D vwCl tys o z (zXX o z) zTs zprog ws0 4 cX0_pass none pc sem) (c := kX0_pass) ?_ h
  unfold kX0_pass
  exact (zrs_c (zr_s (zq_aload_n C (zda zDX0_pass 0 rfl rfl) rfl)
    (zr_s (zq_aload_n C (zda zDX0_pass 1 rfl rfl) rfl)
    (zr_s (zk_callV (n := 1) C zXX_ok zTs_good hbc hbs (show zget zprog 32 = some mX0_watch from rfl) rfl rfl (show vwCl[0]? = some (RX0, TX0, 12) from rfl) zw661 zw658 zw660 zs37 zw3 (by decide +kernel) (zda zDX0_pass 2 rfl rfl))
    (zr_n (zr_n (zr_s (zq_aload_n C (zda zDX0_pass 5 rfl rfl) rfl)
    (zr_s (zq_get (k := 5) C (zda zDX0_pass 6 rfl rfl) (show vwCl[0]? = some (RX0, TX0, 12) from rfl) zinX0 (by decide) zw254)
    (zr_n (zr_n (zr_s (zq_iconst (n := .ofNat 0) C (zda zDX0_pass 9 rfl rfl) (by decide))
    (zr_s (zk_callS C zXX_ok zTs_good hbc hbs (show zget zprog 16 = some mJ7_fill_53178 from rfl) rfl rfl zw300 zw662 zw299 zw12 (by decide +kernel) (zda zDX0_pass 10 rfl rfl))
    (zr_n (zr_n (zr_s (zq_iconst (n := .ofNat 0) C (zda zDX0_pass 13 rfl rfl) (by decide))
    (zr_s (zq_istoreN_n C (zda zDX0_pass 14 rfl rfl) rfl (by decide))
    (zr_s (zq_iload_n C (zda zDX0_pass 15 rfl rfl) rfl)
    zr_0))))))))))))))))
  (zrs_c (zr_s (zq_aload_n C (zda zDX0_pass 16 rfl rfl) rfl)
    (zr_s (zq_get (k := 7) C (zda zDX0_pass 17 rfl rfl) (show vwCl[0]? = some (RX0, TX0, 12) from rfl) zinX0 (by decide) zw257)
    (zr_n (zr_n (zr_s (zqr_ge C (zda zDX0_pass 20 rfl rfl) (by decide))
    (zr_n (zr_n (zr_s (zq_aload_n C (zda zDX0_pass 23 rfl rfl) rfl)
    (zr_s (zq_getN (k := 0) C (zda zDX0_pass 24 rfl rfl) (show vwCl[5]? = some (RX5, TX5, 6) from rfl) zinX5 (by decide) (fun U H h => zn18 h))
    (zr_n (zr_n (zr_s (zq_iload_n C (zda zDX0_pass 27 rfl rfl) rfl)
    (zr_s (zk_iald C (zda zDX0_pass 28 rfl rfl))
    (zr_s (zq_istoreN_n C (zda zDX0_pass 29 rfl rfl) rfl (by decide))
    (zr_s (zq_aload_n C (zda zDX0_pass 30 rfl rfl) rfl)
    (zr_s (zq_get (k := 11) C (zda zDX0_pass 31 rfl rfl) (show vwCl[0]? = some (RX0, TX0, 12) from rfl) zinX0 (by decide) zw265)
    zr_0))))))))))))))))
  (zrs_c (zr_n (zr_n (zr_s (zq_iload_n C (zda zDX0_pass 34 rfl rfl) rfl)
    (zr_s (zq_ishr C (zda zDX0_pass 35 rfl rfl))
    (zr_s (zq_iconst (n := .ofNat 1) C (zda zDX0_pass 36 rfl rfl) (by decide))
    (zr_s (zqb_and C (zda zDX0_pass 37 rfl rfl))
    (zr_s (zq_iconst (n := .ofNat 1) C (zda zDX0_pass 38 rfl rfl) (by decide))
    (zr_s (zqr_ne C (zda zDX0_pass 39 rfl rfl) (by decide))
    (zr_n (zr_n (zr_s (zq_aload_n C (zda zDX0_pass 42 rfl rfl) rfl)
    (zr_s (zq_iload_n C (zda zDX0_pass 43 rfl rfl) rfl)
    (zr_s (zk_callV (n := 1) C zXX_ok zTs_good hbc hbs (show zget zprog 21 = some mX0_has from rfl) rfl rfl (show vwCl[0]? = some (RX0, TX0, 12) from rfl) zw550 zw636 zw549 zs23 zw3 (by decide +kernel) (zda zDX0_pass 44 rfl rfl))
    (zr_n (zr_n (zr_s (zqr_if_eq C (zda zDX0_pass 47 rfl rfl) (by decide))
    zr_0))))))))))))))))
  (zrs_c (zr_n (zr_n (zr_s (zq_aload_n C (zda zDX0_pass 50 rfl rfl) rfl)
    (zr_s (zq_get (k := 5) C (zda zDX0_pass 51 rfl rfl) (show vwCl[0]? = some (RX0, TX0, 12) from rfl) zinX0 (by decide) zw254)
    (zr_n (zr_n (zr_s (zq_iload_n C (zda zDX0_pass 54 rfl rfl) rfl)
    (zr_s (zk_dup2 C (zda zDX0_pass 55 rfl rfl))
    (zr_s (zk_iald C (zda zDX0_pass 56 rfl rfl))
    (zr_s (zq_aload_n C (zda zDX0_pass 57 rfl rfl) rfl)
    (zr_s (zq_aload_n C (zda zDX0_pass 58 rfl rfl) rfl)
    (zr_s (zq_get (k := 9) C (zda zDX0_pass 59 rfl rfl) (show vwCl[0]? = some (RX0, TX0, 12) from rfl) zinX0 (by decide) zw261)
    (zr_n (zr_n (zr_s (zq_aload_n C (zda zDX0_pass 62 rfl rfl) rfl)
    (zr_s (zq_iload_n C (zda zDX0_pass 63 rfl rfl) rfl)
    zr_0))))))))))))))))
  (zrs_c (zr_s (zq_iload_n C (zda zDX0_pass 64 rfl rfl) rfl)
    (zr_s (zk_callV (n := 4) C zXX_ok zTs_good hbc hbs (show zget zprog 20 = some mX0_hardBy from rfl) rfl rfl (show vwCl[0]? = some (RX0, TX0, 12) from rfl) zw561 zw682 zw560 zs25 zw3 (by decide +kernel) (zda zDX0_pass 65 rfl rfl))
    (zr_n (zr_n (zr_s (zk_add C (zda zDX0_pass 68 rfl rfl))
    (zr_s (zk_iast C (zda zDX0_pass 69 rfl rfl))
    (zr_s (zk_inc (n := .ofNat 1) C (zda zDX0_pass 70 rfl rfl) (by decide) (by decide))
    (zr_n (zr_n (zr_s (zk_goto C (zda zDX0_pass 73 rfl rfl) (by decide))
    (zr_n (zr_n (zr_s (zq_iconst (n := .ofNat 0) C (zda zDX0_pass 76 rfl rfl) (by decide))
    (zr_s (zq_istoreN_n C (zda zDX0_pass 77 rfl rfl) rfl (by decide))
    (zr_s (zq_iload_n C (zda zDX0_pass 78 rfl rfl) rfl)
    (zr_s (zq_aload_n C (zda zDX0_pass 79 rfl rfl) rfl)
    zr_0))))))))))))))))
  (zrs_c (zr_s (zq_get (k := 6) C (zda zDX0_pass 80 rfl rfl) (show vwCl[0]? = some (RX0, TX0, 12) from rfl) zinX0 (by decide) zw255)
    (zr_n (zr_n (zr_s (zqr_ge C (zda zDX0_pass 83 rfl rfl) (by decide))
    (zr_n (zr_n (zr_s (zq_aload_n C (zda zDX0_pass 86 rfl rfl) rfl)
    (zr_s (zq_get (k := 4) C (zda zDX0_pass 87 rfl rfl) (show vwCl[0]? = some (RX0, TX0, 12) from rfl) zinX0 (by decide) zw253)
    (zr_n (zr_n (zr_s (zq_iload_n C (zda zDX0_pass 90 rfl rfl) rfl)
    (zr_s (zk_iald C (zda zDX0_pass 91 rfl rfl))
    (zr_s (zqr_if_le C (zda zDX0_pass 92 rfl rfl) (by decide))
    (zr_n (zr_n (zr_s (zq_aload_n C (zda zDX0_pass 95 rfl rfl) rfl)
    zr_0))))))))))))))))
  (zrs_c (zr_s (zq_getN (k := 1) C (zda zDX0_pass 96 rfl rfl) (show vwCl[5]? = some (RX5, TX5, 6) from rfl) zinX5 (by decide) (fun U H h => zn20 h))
    (zr_n (zr_n (zr_s (zq_iload_n C (zda zDX0_pass 99 rfl rfl) rfl)
    (zr_s (zk_iald C (zda zDX0_pass 100 rfl rfl))
    (zr_s (zq_aload_n C (zda zDX0_pass 101 rfl rfl) rfl)
    (zr_s (zq_get (k := 5) C (zda zDX0_pass 102 rfl rfl) (show vwCl[0]? = some (RX0, TX0, 12) from rfl) zinX0 (by decide) zw254)
    (zr_n (zr_n (zr_s (zq_iload_n C (zda zDX0_pass 105 rfl rfl) rfl)
    (zr_s (zk_iald C (zda zDX0_pass 106 rfl rfl))
    (zr_s (zk_add C (zda zDX0_pass 107 rfl rfl))
    (zr_s (zk_goto C (zda zDX0_pass 108 rfl rfl) (by decide))
    (zr_n (zr_n (zr_s (zq_aload_n C (zda zDX0_pass 111 rfl rfl) rfl)
    zr_0))))))))))))))))
  (zrs_c (zr_s (zq_getN (k := 1) C (zda zDX0_pass 112 rfl rfl) (show vwCl[5]? = some (RX5, TX5, 6) from rfl) zinX5 (by decide) (fun U H h => zn20 h))
    (zr_n (zr_n (zr_s (zq_iload_n C (zda zDX0_pass 115 rfl rfl) rfl)
    (zr_s (zk_iald C (zda zDX0_pass 116 rfl rfl))
    (zr_s (zq_iconst (n := .ofNat 5) C (zda zDX0_pass 117 rfl rfl) (by decide))
    (zr_s (zk_sub C (zda zDX0_pass 118 rfl rfl))
    (zr_s (zq_istoreN_n C (zda zDX0_pass 119 rfl rfl) rfl (by decide))
    (zr_s (zq_aload_n C (zda zDX0_pass 120 rfl rfl) rfl)
    (zr_s (zq_getN (k := 1) C (zda zDX0_pass 121 rfl rfl) (show vwCl[5]? = some (RX5, TX5, 6) from rfl) zinX5 (by decide) (fun U H h => zn20 h))
    (zr_n (zr_n (zr_s (zq_iload_n C (zda zDX0_pass 124 rfl rfl) rfl)
    (zr_s (zq_iload_n C (zda zDX0_pass 125 rfl rfl) rfl)
    (zr_s (zq_iconst (n := .ofNat 0) C (zda zDX0_pass 126 rfl rfl) (by decide))
    (zr_s (zq_bipush (n := .ofNat 99) C (zda zDX0_pass 127 rfl rfl) (by decide) (by decide))
    zr_0))))))))))))))))
  (zrs_c (zr_n (zr_s (zk_callSN C zXX_ok zTs_good hbc hbs (show zget zprog 107 = some mX7_between from rfl) rfl rfl zw581 (fun U H h => zn49 h) zw580 zw1 (by decide +kernel) (zda zDX0_pass 129 rfl rfl))
    (zr_n (zr_n (zr_s (zk_iast C (zda zDX0_pass 132 rfl rfl))
    (zr_s (zk_inc (n := .ofNat 1) C (zda zDX0_pass 133 rfl rfl) (by decide) (by decide))
    (zr_n (zr_n (zr_s (zk_goto C (zda zDX0_pass 136 rfl rfl) (by decide))
    (zr_n (zr_n (zr_s (zq_aload_n C (zda zDX0_pass 139 rfl rfl) rfl)
    (zr_s (zk_dup C (zda zDX0_pass 140 rfl rfl))
    (zr_s (zq_getN (k := 4) C (zda zDX0_pass 141 rfl rfl) (show vwCl[5]? = some (RX5, TX5, 6) from rfl) zinX5 (by decide) (fun U H h => zn25 h))
    (zr_n (zr_n zr_0))))))))))))))))
  (zrs_c (zr_s (zq_aload_n C (zda zDX0_pass 144 rfl rfl) rfl)
    (zr_s (zq_get (k := 10) C (zda zDX0_pass 145 rfl rfl) (show vwCl[0]? = some (RX0, TX0, 12) from rfl) zinX0 (by decide) zw263)
    (zr_n (zr_n (zr_s (zk_callS C zXX_ok zTs_good hbc hbs (show zget zprog 14 = some mJ6_bitCount_0f7a4 from rfl) rfl rfl zw564 zw562 zw563 zw21 (by decide +kernel) (zda zDX0_pass 148 rfl rfl))
    (zr_n (zr_n (zr_s (zk_add C (zda zDX0_pass 151 rfl rfl))
    (zr_s (zq_putN (k := 4) C (zda zDX0_pass 152 rfl rfl) (show vwCl[5]? = some (RX5, TX5, 6) from rfl) zinX5 tyX5 tyX5_ok nmX5 (by decide) (fun U H h => zn25 h) rfl (ty := .int) (by decide +kernel) rfl)
    (zr_n (zr_n (zr_s (zq_aload_n C (zda zDX0_pass 155 rfl rfl) rfl)
    (zr_s (zk_dup C (zda zDX0_pass 156 rfl rfl))
    (zr_s (zq_getN (k := 5) C (zda zDX0_pass 157 rfl rfl) (show vwCl[5]? = some (RX5, TX5, 6) from rfl) zinX5 (by decide) (fun U H h => zn27 h))
    (zr_n (zr_n zr_0))))))))))))))))
  (zrs_c (zr_s (zq_aload_n C (zda zDX0_pass 160 rfl rfl) rfl)
    (zr_s (zq_get (k := 11) C (zda zDX0_pass 161 rfl rfl) (show vwCl[0]? = some (RX0, TX0, 12) from rfl) zinX0 (by decide) zw265)
    (zr_n (zr_n (zr_s (zk_callS C zXX_ok zTs_good hbc hbs (show zget zprog 14 = some mJ6_bitCount_0f7a4 from rfl) rfl rfl zw564 zw562 zw563 zw21 (by decide +kernel) (zda zDX0_pass 164 rfl rfl))
    (zr_n (zr_n (zr_s (zk_add C (zda zDX0_pass 167 rfl rfl))
    (zr_s (zq_putN (k := 5) C (zda zDX0_pass 168 rfl rfl) (show vwCl[5]? = some (RX5, TX5, 6) from rfl) zinX5 tyX5 tyX5_ok nmX5 (by decide) (fun U H h => zn27 h) rfl (ty := .int) (by decide +kernel) rfl)
    (zr_n (zr_n (zr_s (zq_aload_n C (zda zDX0_pass 171 rfl rfl) rfl)
    (zr_s (zk_dup C (zda zDX0_pass 172 rfl rfl))
    (zr_s (zq_getN (k := 3) C (zda zDX0_pass 173 rfl rfl) (show vwCl[5]? = some (RX5, TX5, 6) from rfl) zinX5 (by decide) (fun U H h => zn22 h))
    (zr_n (zr_n zr_0))))))))))))))))
  (zrs_c (zr_s (zq_iconst (n := .ofNat 1) C (zda zDX0_pass 176 rfl rfl) (by decide))
    (zr_s (zk_add C (zda zDX0_pass 177 rfl rfl))
    (zr_s (zq_putN (k := 3) C (zda zDX0_pass 178 rfl rfl) (show vwCl[5]? = some (RX5, TX5, 6) from rfl) zinX5 tyX5 tyX5_ok nmX5 (by decide) (fun U H h => zn22 h) rfl (ty := .int) (by decide +kernel) rfl)
    (zr_n (zr_n (zr_s (zk_ret0 C hbc hbs rfl (zda zDX0_pass 181 rfl rfl))
    zr_0))))))
  zrs_0))))))))))))
set_option maxRecDepth 100000 in
set_option maxHeartbeats 4000000 in
theorem okX0_passAll {l : Launch} {D : va_G} {tys : List (ClassId × FieldType)} {o : zO} {z : Nat} (E : zEnv tys) : zCodeOk l D vwCl tys o z (zXX o z) zTs zprog mX0_passAll := by
  intro p e R s m args below meth c0 Q ws0 hbc hbs C pc sem h
  replace hbc : R.cells = 0 := hbc
  replace hbs : R.slots = 0 := hbs
  replace C : zCx p R s m args meth c0 D vwCl tys z (zXX o z) zTs RX0 cX0_passAll 4 "passAll" := C
  refine zRows_get (P := fun pc sem => zOp p l e R s m args below meth c0 Q D vwCl tys o z (zXX o z) zTs zprog ws0 4 cX0_passAll none pc sem) (c := kX0_passAll) ?_ h
  unfold kX0_passAll
  exact (zrs_c (zr_s (zq_iconst (n := .ofNat 0) C (zda zDX0_passAll 0 rfl rfl) (by decide))
    (zr_s (zq_istoreN_n C (zda zDX0_passAll 1 rfl rfl) rfl (by decide))
    (zr_s (zq_iload_n C (zda zDX0_passAll 2 rfl rfl) rfl)
    (zr_s (zq_iload_n C (zda zDX0_passAll 3 rfl rfl) rfl)
    (zr_s (zqr_ge C (zda zDX0_passAll 4 rfl rfl) (by decide))
    (zr_n (zr_n (zr_s (zq_aload_n C (zda zDX0_passAll 7 rfl rfl) rfl)
    (zr_s (zq_aload_n C (zda zDX0_passAll 8 rfl rfl) rfl)
    (zr_s (zk_callV (n := 1) C zXX_ok zTs_good hbc hbs (show zget zprog 25 = some mX0_pass from rfl) rfl rfl (show vwCl[0]? = some (RX0, TX0, 12) from rfl) zw657 zw654 zw656 zs36 zw3 (by decide +kernel) (zda zDX0_passAll 9 rfl rfl))
    (zr_n (zr_n (zr_s (zk_inc (n := .ofNat 1) C (zda zDX0_passAll 12 rfl rfl) (by decide) (by decide))
    (zr_n (zr_n (zr_s (zk_goto C (zda zDX0_passAll 15 rfl rfl) (by decide))
    zr_0))))))))))))))))
  (zrs_c (zr_n (zr_n (zr_s (zk_ret0 C hbc hbs rfl (zda zDX0_passAll 18 rfl rfl))
    zr_0)))
  zrs_0))
set_option maxRecDepth 100000 in
set_option maxHeartbeats 4000000 in
theorem okX0_readRiders {l : Launch} {D : va_G} {tys : List (ClassId × FieldType)} {o : zO} {z : Nat} (E : zEnv tys) : zCodeOk l D vwCl tys o z (zXX o z) zTs zprog mX0_readRiders := by
  intro p e R s m args below meth c0 Q ws0 hbc hbs C pc sem h
  replace hbc : R.cells = 0 := hbc
  replace hbs : R.slots = 0 := hbs
  replace C : zCx p R s m args meth c0 D vwCl tys z (zXX o z) zTs RX0 cX0_readRiders 7 "readRiders" := C
  refine zRows_get (P := fun pc sem => zOp p l e R s m args below meth c0 Q D vwCl tys o z (zXX o z) zTs zprog ws0 7 cX0_readRiders (some .int) pc sem) (c := kX0_readRiders) ?_ h
  unfold kX0_readRiders
  exact (zrs_c (zr_s (zq_aload_n C (zda zDX0_readRiders 0 rfl rfl) rfl)
    (zr_s (zq_getN (k := 1) C (zda zDX0_readRiders 1 rfl rfl) (show vwCl[6]? = some (RX6, TX6, 2) from rfl) zinX6 (by decide) (fun U H h => zn2 h))
    (zr_n (zr_n (zr_s (zqr_if_ne C (zda zDX0_readRiders 4 rfl rfl) (by decide))
    (zr_n (zr_n (zr_s (zq_iconst (n := .ofNat 0) C (zda zDX0_readRiders 7 rfl rfl) (by decide))
    (zr_s (zk_ret1 (ty := .int) C hbc hbs rfl rfl (Or.inl ⟨(zda zDX0_readRiders 8 rfl rfl), by decide⟩))
    (zr_s (zq_aload_n C (zda zDX0_readRiders 9 rfl rfl) rfl)
    (zr_s (zq_getN (k := 1) C (zda zDX0_readRiders 10 rfl rfl) (show vwCl[6]? = some (RX6, TX6, 2) from rfl) zinX6 (by decide) (fun U H h => zn2 h))
    (zr_n (zr_n (zr_s (zq_bipush (n := .ofNat 76) C (zda zDX0_readRiders 13 rfl rfl) (by decide) (by decide))
    (zr_n (zr_s (zq_min C hbc hbs (zda zDX0_readRiders 15 rfl rfl) zw496 zw149 zw9 zw150)
    zr_0))))))))))))))))
  (zrs_c (zr_n (zr_n (zr_s (zq_istoreN_n C (zda zDX0_readRiders 18 rfl rfl) rfl (by decide))
    (zr_s (zq_iconst (n := .ofNat 0) C (zda zDX0_readRiders 19 rfl rfl) (by decide))
    (zr_s (zq_istoreN_n C (zda zDX0_readRiders 20 rfl rfl) rfl (by decide))
    (zr_s (zq_iconst (n := .ofNat 0) C (zda zDX0_readRiders 21 rfl rfl) (by decide))
    (zr_s (zq_istoreN C (zda zDX0_readRiders 22 rfl rfl) (by decide))
    (zr_n (zr_s (zq_iconst (n := .ofNat 0) C (zda zDX0_readRiders 24 rfl rfl) (by decide))
    (zr_s (zq_istoreN C (zda zDX0_readRiders 25 rfl rfl) (by decide))
    (zr_n (zr_s (zq_iload C (zda zDX0_readRiders 27 rfl rfl))
    (zr_n (zr_s (zq_iload_n C (zda zDX0_readRiders 29 rfl rfl) rfl)
    (zr_s (zqr_ge C (zda zDX0_readRiders 30 rfl rfl) (by decide))
    (zr_n zr_0))))))))))))))))
  (zrs_c (zr_n (zr_s (zq_aload_n C (zda zDX0_readRiders 33 rfl rfl) rfl)
    (zr_s (zq_aload_n C (zda zDX0_readRiders 34 rfl rfl) rfl)
    (zr_s (zq_iload C (zda zDX0_readRiders 35 rfl rfl))
    (zr_n (zr_s (zk_callVN (n := 1) C zXX_ok zTs_good hbc hbs (show zget zprog 93 = some mX6_at from rfl) rfl rfl (show vwCl[6]? = some (RX6, TX6, 2) from rfl) zw500 (fun U H h => zn41 h) zw499 zs13 zw2 (by decide +kernel) (zda zDX0_readRiders 37 rfl rfl))
    (zr_n (zr_n (zr_s (zq_iload_n C (zda zDX0_readRiders 40 rfl rfl) rfl)
    (zr_s (zq_aload_n C (zda zDX0_readRiders 41 rfl rfl) rfl)
    (zr_s (zq_get (k := 6) C (zda zDX0_readRiders 42 rfl rfl) (show vwCl[0]? = some (RX0, TX0, 12) from rfl) zinX0 (by decide) zw255)
    (zr_n (zr_n (zr_s (zq_iload C (zda zDX0_readRiders 45 rfl rfl))
    (zr_n (zr_s (zk_add C (zda zDX0_readRiders 47 rfl rfl))
    zr_0))))))))))))))))
  (zrs_c (zr_s (zk_callV (n := 3) C zXX_ok zTs_good hbc hbs (show zget zprog 30 = some mX0_takeSign from rfl) rfl rfl (show vwCl[0]? = some (RX0, TX0, 12) from rfl) zw504 zw501 zw503 zs14 zw3 (by decide +kernel) (zda zDX0_readRiders 48 rfl rfl))
    (zr_n (zr_n (zr_s (zq_istoreN C (zda zDX0_readRiders 51 rfl rfl) (by decide))
    (zr_n (zr_s (zq_iload C (zda zDX0_readRiders 53 rfl rfl))
    (zr_n (zr_s (zq_iconst (n := .negSucc 0) C (zda zDX0_readRiders 55 rfl rfl) (by decide))
    (zr_s (zqr_ne C (zda zDX0_readRiders 56 rfl rfl) (by decide))
    (zr_n (zr_n (zr_s (zq_iconst (n := .negSucc 0) C (zda zDX0_readRiders 59 rfl rfl) (by decide))
    (zr_s (zq_iload C (zda zDX0_readRiders 60 rfl rfl))
    (zr_n (zr_s (zk_sub C (zda zDX0_readRiders 62 rfl rfl))
    (zr_s (zk_ret1 (ty := .int) C hbc hbs rfl rfl (Or.inl ⟨(zda zDX0_readRiders 63 rfl rfl), by decide⟩))
    zr_0))))))))))))))))
  (zrs_c (zr_s (zq_iload C (zda zDX0_readRiders 64 rfl rfl))
    (zr_n (zr_s (zq_iload_n C (zda zDX0_readRiders 66 rfl rfl) rfl)
    (zr_s (zq_iconst (n := .ofNat 1) C (zda zDX0_readRiders 67 rfl rfl) (by decide))
    (zr_s (zqr_ne C (zda zDX0_readRiders 68 rfl rfl) (by decide))
    (zr_n (zr_n (zr_s (zq_iconst (n := .ofNat 1) C (zda zDX0_readRiders 71 rfl rfl) (by decide))
    (zr_s (zk_goto C (zda zDX0_readRiders 72 rfl rfl) (by decide))
    (zr_n (zr_n (zr_s (zq_iconst (n := .ofNat 0) C (zda zDX0_readRiders 75 rfl rfl) (by decide))
    (zr_s (zk_add C (zda zDX0_readRiders 76 rfl rfl))
    (zr_s (zq_istoreN C (zda zDX0_readRiders 77 rfl rfl) (by decide))
    (zr_n (zr_s (zq_iload C (zda zDX0_readRiders 79 rfl rfl))
    zr_0))))))))))))))))
  (zrs_c (zr_n (zr_s (zq_istoreN_n C (zda zDX0_readRiders 81 rfl rfl) rfl (by decide))
    (zr_s (zk_inc (n := .ofNat 1) C (zda zDX0_readRiders 82 rfl rfl) (by decide) (by decide))
    (zr_n (zr_n (zr_s (zk_goto C (zda zDX0_readRiders 85 rfl rfl) (by decide))
    (zr_n (zr_n (zr_s (zq_aload_n C (zda zDX0_readRiders 88 rfl rfl) rfl)
    (zr_s (zq_getN (k := 1) C (zda zDX0_readRiders 89 rfl rfl) (show vwCl[6]? = some (RX6, TX6, 2) from rfl) zinX6 (by decide) (fun U H h => zn2 h))
    (zr_n (zr_n (zr_s (zq_bipush (n := .ofNat 76) C (zda zDX0_readRiders 92 rfl rfl) (by decide) (by decide))
    (zr_n (zr_s (zqr_gt C (zda zDX0_readRiders 94 rfl rfl) (by decide))
    (zr_n zr_0))))))))))))))))
  (zrs_c (zr_n (zr_s (zq_iload_n C (zda zDX0_readRiders 97 rfl rfl) rfl)
    (zr_s (zq_iconst (n := .ofNat 2) C (zda zDX0_readRiders 98 rfl rfl) (by decide))
    (zr_s (zqr_ge C (zda zDX0_readRiders 99 rfl rfl) (by decide))
    (zr_n (zr_n (zr_s (zq_iconst (n := .negSucc 0) C (zda zDX0_readRiders 102 rfl rfl) (by decide))
    (zr_s (zq_iload_n C (zda zDX0_readRiders 103 rfl rfl) rfl)
    (zr_s (zk_sub C (zda zDX0_readRiders 104 rfl rfl))
    (zr_s (zk_ret1 (ty := .int) C hbc hbs rfl rfl (Or.inl ⟨(zda zDX0_readRiders 105 rfl rfl), by decide⟩))
    (zr_s (zq_aload_n C (zda zDX0_readRiders 106 rfl rfl) rfl)
    (zr_s (zk_dup C (zda zDX0_readRiders 107 rfl rfl))
    (zr_s (zq_get (k := 6) C (zda zDX0_readRiders 108 rfl rfl) (show vwCl[0]? = some (RX0, TX0, 12) from rfl) zinX0 (by decide) zw255)
    (zr_n (zr_n (zr_s (zq_iload C (zda zDX0_readRiders 111 rfl rfl))
    zr_0))))))))))))))))
  (zrs_c (zr_n (zr_s (zk_add C (zda zDX0_readRiders 113 rfl rfl))
    (zr_s (zq_put (k := 6) C (zda zDX0_readRiders 114 rfl rfl) (show vwCl[0]? = some (RX0, TX0, 12) from rfl) zinX0 tyX0 tyX0_ok nmX0 (by decide) zw255 rfl (ty := .int) (by decide +kernel) rfl)
    (zr_n (zr_n (zr_s (zq_iload C (zda zDX0_readRiders 117 rfl rfl))
    (zr_n (zr_s (zk_ret1 (ty := .int) C hbc hbs rfl rfl (Or.inl ⟨(zda zDX0_readRiders 119 rfl rfl), by decide⟩))
    zr_0))))))))
  zrs_0))))))))
set_option maxRecDepth 100000 in
set_option maxHeartbeats 4000000 in
theorem okX0_takeHour {l : Launch} {D : va_G} {tys : List (ClassId × FieldType)} {o : zO} {z : Nat} (E : zEnv tys) : zCodeOk l D vwCl tys o z (zXX o z) zTs zprog mX0_takeHour := by
  intro p e R s m args below meth c0 Q ws0 hbc hbs C pc sem h
  replace hbc : R.cells = 0 := hbc
  replace hbs : R.slots = 0 := hbs
  replace C : zCx p R s m args meth c0 D vwCl tys z (zXX o z) zTs RX0 cX0_takeHour 3 "takeHour" := C
  refine zRows_get (P := fun pc sem => zOp p l e R s m args below meth c0 Q D vwCl tys o z (zXX o z) zTs zprog ws0 3 cX0_takeHour (some .int) pc sem) (c := kX0_takeHour) ?_ h
  unfold kX0_takeHour
  exact (zrs_c (zr_s (zq_iload_n C (zda zDX0_takeHour 0 rfl rfl) rfl)
    (zr_s (zq_bipush (n := .ofNat 8) C (zda zDX0_takeHour 1 rfl rfl) (by decide) (by decide))
    (zr_n (zr_s (zqr_ge C (zda zDX0_takeHour 3 rfl rfl) (by decide))
    (zr_n (zr_n (zr_s (zq_aload_n C (zda zDX0_takeHour 6 rfl rfl) rfl)
    (zr_s (zq_get (k := 0) C (zda zDX0_takeHour 7 rfl rfl) (show vwCl[0]? = some (RX0, TX0, 12) from rfl) zinX0 (by decide) zw246)
    (zr_n (zr_n (zr_s (zq_iload_n C (zda zDX0_takeHour 10 rfl rfl) rfl)
    (zr_s (zk_iald C (zda zDX0_takeHour 11 rfl rfl))
    (zr_s (zq_iload_n C (zda zDX0_takeHour 12 rfl rfl) rfl)
    (zr_s (zqr_lt C (zda zDX0_takeHour 13 rfl rfl) (by decide))
    (zr_n (zr_n zr_0))))))))))))))))
  (zrs_c (zr_s (zq_iconst (n := .negSucc 0) C (zda zDX0_takeHour 16 rfl rfl) (by decide))
    (zr_s (zk_ret1 (ty := .int) C hbc hbs rfl rfl (Or.inl ⟨(zda zDX0_takeHour 17 rfl rfl), by decide⟩))
    (zr_s (zq_aload_n C (zda zDX0_takeHour 18 rfl rfl) rfl)
    (zr_s (zq_get (k := 0) C (zda zDX0_takeHour 19 rfl rfl) (show vwCl[0]? = some (RX0, TX0, 12) from rfl) zinX0 (by decide) zw246)
    (zr_n (zr_n (zr_s (zq_iload_n C (zda zDX0_takeHour 22 rfl rfl) rfl)
    (zr_s (zk_dup2 C (zda zDX0_takeHour 23 rfl rfl))
    (zr_s (zk_iald C (zda zDX0_takeHour 24 rfl rfl))
    (zr_s (zq_iload_n C (zda zDX0_takeHour 25 rfl rfl) rfl)
    (zr_s (zqb_or C (zda zDX0_takeHour 26 rfl rfl))
    (zr_s (zk_iast C (zda zDX0_takeHour 27 rfl rfl))
    (zr_s (zq_iconst (n := .ofNat 2) C (zda zDX0_takeHour 28 rfl rfl) (by decide))
    (zr_s (zk_ret1 (ty := .int) C hbc hbs rfl rfl (Or.inl ⟨(zda zDX0_takeHour 29 rfl rfl), by decide⟩))
    zr_0))))))))))))))
  zrs_0))
set_option maxRecDepth 100000 in
set_option maxHeartbeats 4000000 in
theorem okX0_takeMost {l : Launch} {D : va_G} {tys : List (ClassId × FieldType)} {o : zO} {z : Nat} (E : zEnv tys) : zCodeOk l D vwCl tys o z (zXX o z) zTs zprog mX0_takeMost := by
  intro p e R s m args below meth c0 Q ws0 hbc hbs C pc sem h
  replace hbc : R.cells = 0 := hbc
  replace hbs : R.slots = 0 := hbs
  replace C : zCx p R s m args meth c0 D vwCl tys z (zXX o z) zTs RX0 cX0_takeMost 3 "takeMost" := C
  refine zRows_get (P := fun pc sem => zOp p l e R s m args below meth c0 Q D vwCl tys o z (zXX o z) zTs zprog ws0 3 cX0_takeMost (some .int) pc sem) (c := kX0_takeMost) ?_ h
  unfold kX0_takeMost
  exact (zrs_c (zr_s (zq_aload_n C (zda zDX0_takeMost 0 rfl rfl) rfl)
    (zr_s (zq_get (k := 1) C (zda zDX0_takeMost 1 rfl rfl) (show vwCl[0]? = some (RX0, TX0, 12) from rfl) zinX0 (by decide) zw248)
    (zr_n (zr_n (zr_s (zq_iload_n C (zda zDX0_takeMost 4 rfl rfl) rfl)
    (zr_s (zq_iload_n C (zda zDX0_takeMost 5 rfl rfl) rfl)
    (zr_s (zk_iast C (zda zDX0_takeMost 6 rfl rfl))
    (zr_s (zq_iconst (n := .ofNat 1) C (zda zDX0_takeMost 7 rfl rfl) (by decide))
    (zr_s (zk_ret1 (ty := .int) C hbc hbs rfl rfl (Or.inl ⟨(zda zDX0_takeMost 8 rfl rfl), by decide⟩))
    zr_0)))))))))
  zrs_0)
set_option maxRecDepth 100000 in
set_option maxHeartbeats 4000000 in
theorem okX0_takeSign {l : Launch} {D : va_G} {tys : List (ClassId × FieldType)} {o : zO} {z : Nat} (E : zEnv tys) : zCodeOk l D vwCl tys o z (zXX o z) zTs zprog mX0_takeSign := by
  intro p e R s m args below meth c0 Q ws0 hbc hbs C pc sem h
  replace hbc : R.cells = 0 := hbc
  replace hbs : R.slots = 0 := hbs
  replace C : zCx p R s m args meth c0 D vwCl tys z (zXX o z) zTs RX0 cX0_takeSign 4 "takeSign" := C
  refine zRows_get (P := fun pc sem => zOp p l e R s m args below meth c0 Q D vwCl tys o z (zXX o z) zTs zprog ws0 4 cX0_takeSign (some .int) pc sem) (c := kX0_takeSign) ?_ h
  unfold kX0_takeSign
  exact (zrs_c (zr_s (zq_iload_n C (zda zDX0_takeSign 0 rfl rfl) rfl)
    (zr_s (zqr_if_ne C (zda zDX0_takeSign 1 rfl rfl) (by decide))
    (zr_n (zr_n (zr_s (zq_iload_n C (zda zDX0_takeSign 4 rfl rfl) rfl)
    (zr_s (zq_bipush (n := .ofNat 49) C (zda zDX0_takeSign 5 rfl rfl) (by decide) (by decide))
    (zr_n (zr_s (zqr_lt C (zda zDX0_takeSign 7 rfl rfl) (by decide))
    (zr_n (zr_n (zr_s (zq_iload_n C (zda zDX0_takeSign 10 rfl rfl) rfl)
    (zr_s (zq_bipush (n := .ofNat 52) C (zda zDX0_takeSign 11 rfl rfl) (by decide) (by decide))
    (zr_n (zr_s (zqr_gt C (zda zDX0_takeSign 13 rfl rfl) (by decide))
    (zr_n (zr_n zr_0))))))))))))))))
  (zrs_c (zr_s (zq_iload_n C (zda zDX0_takeSign 16 rfl rfl) rfl)
    (zr_s (zq_bipush (n := .ofNat 8) C (zda zDX0_takeSign 17 rfl rfl) (by decide) (by decide))
    (zr_n (zr_s (zqr_ge C (zda zDX0_takeSign 19 rfl rfl) (by decide))
    (zr_n (zr_n (zr_s (zq_aload_n C (zda zDX0_takeSign 22 rfl rfl) rfl)
    (zr_s (zq_iload_n C (zda zDX0_takeSign 23 rfl rfl) rfl)
    (zr_s (zq_iload_n C (zda zDX0_takeSign 24 rfl rfl) rfl)
    (zr_s (zq_bipush (n := .ofNat 48) C (zda zDX0_takeSign 25 rfl rfl) (by decide) (by decide))
    (zr_n (zr_s (zk_sub C (zda zDX0_takeSign 27 rfl rfl))
    (zr_s (zk_callV (n := 2) C zXX_ok zTs_good hbc hbs (show zget zprog 29 = some mX0_takeMost from rfl) rfl rfl (show vwCl[0]? = some (RX0, TX0, 12) from rfl) zw508 zw505 zw507 zs15 zw3 (by decide +kernel) (zda zDX0_takeSign 28 rfl rfl))
    (zr_n (zr_n (zr_s (zk_goto C (zda zDX0_takeSign 31 rfl rfl) (by decide))
    zr_0))))))))))))))))
  (zrs_c (zr_n (zr_n (zr_s (zq_iconst (n := .negSucc 0) C (zda zDX0_takeSign 34 rfl rfl) (by decide))
    (zr_s (zk_ret1 (ty := .int) C hbc hbs rfl rfl (Or.inl ⟨(zda zDX0_takeSign 35 rfl rfl), by decide⟩))
    (zr_s (zq_iload_n C (zda zDX0_takeSign 36 rfl rfl) rfl)
    (zr_s (zq_iconst (n := .ofNat 1) C (zda zDX0_takeSign 37 rfl rfl) (by decide))
    (zr_s (zqr_ne C (zda zDX0_takeSign 38 rfl rfl) (by decide))
    (zr_n (zr_n (zr_s (zq_iload_n C (zda zDX0_takeSign 41 rfl rfl) rfl)
    (zr_s (zq_bipush (n := .ofNat 49) C (zda zDX0_takeSign 42 rfl rfl) (by decide) (by decide))
    (zr_n (zr_s (zqr_lt C (zda zDX0_takeSign 44 rfl rfl) (by decide))
    (zr_n (zr_n (zr_s (zq_iload_n C (zda zDX0_takeSign 47 rfl rfl) rfl)
    zr_0))))))))))))))))
  (zrs_c (zr_s (zq_bipush (n := .ofNat 57) C (zda zDX0_takeSign 48 rfl rfl) (by decide) (by decide))
    (zr_n (zr_s (zqr_gt C (zda zDX0_takeSign 50 rfl rfl) (by decide))
    (zr_n (zr_n (zr_s (zq_iload_n C (zda zDX0_takeSign 53 rfl rfl) rfl)
    (zr_s (zq_bipush (n := .ofNat 8) C (zda zDX0_takeSign 54 rfl rfl) (by decide) (by decide))
    (zr_n (zr_s (zqr_ge C (zda zDX0_takeSign 56 rfl rfl) (by decide))
    (zr_n (zr_n (zr_s (zq_aload_n C (zda zDX0_takeSign 59 rfl rfl) rfl)
    (zr_s (zq_iload_n C (zda zDX0_takeSign 60 rfl rfl) rfl)
    (zr_s (zq_iload_n C (zda zDX0_takeSign 61 rfl rfl) rfl)
    (zr_s (zq_bipush (n := .ofNat 48) C (zda zDX0_takeSign 62 rfl rfl) (by decide) (by decide))
    (zr_n zr_0))))))))))))))))
  (zrs_c (zr_s (zk_sub C (zda zDX0_takeSign 64 rfl rfl))
    (zr_s (zk_callV (n := 2) C zXX_ok zTs_good hbc hbs (show zget zprog 31 = some mX0_takeWidth from rfl) rfl rfl (show vwCl[0]? = some (RX0, TX0, 12) from rfl) zw512 zw509 zw511 zs16 zw3 (by decide +kernel) (zda zDX0_takeSign 65 rfl rfl))
    (zr_n (zr_n (zr_s (zk_goto C (zda zDX0_takeSign 68 rfl rfl) (by decide))
    (zr_n (zr_n (zr_s (zq_iconst (n := .negSucc 0) C (zda zDX0_takeSign 71 rfl rfl) (by decide))
    (zr_s (zk_ret1 (ty := .int) C hbc hbs rfl rfl (Or.inl ⟨(zda zDX0_takeSign 72 rfl rfl), by decide⟩))
    (zr_s (zq_iload_n C (zda zDX0_takeSign 73 rfl rfl) rfl)
    (zr_s (zq_bipush (n := .ofNat 59) C (zda zDX0_takeSign 74 rfl rfl) (by decide) (by decide))
    (zr_n (zr_s (zqr_ne C (zda zDX0_takeSign 76 rfl rfl) (by decide))
    (zr_n (zr_n (zr_s (zq_iconst (n := .ofNat 0) C (zda zDX0_takeSign 79 rfl rfl) (by decide))
    zr_0))))))))))))))))
  (zrs_c (zr_s (zk_ret1 (ty := .int) C hbc hbs rfl rfl (Or.inl ⟨(zda zDX0_takeSign 80 rfl rfl), by decide⟩))
    (zr_s (zq_iload_n C (zda zDX0_takeSign 81 rfl rfl) rfl)
    (zr_s (zq_bipush (n := .ofNat 97) C (zda zDX0_takeSign 82 rfl rfl) (by decide) (by decide))
    (zr_n (zr_s (zqr_lt C (zda zDX0_takeSign 84 rfl rfl) (by decide))
    (zr_n (zr_n (zr_s (zq_iload_n C (zda zDX0_takeSign 87 rfl rfl) rfl)
    (zr_s (zq_bipush (n := .ofNat 104) C (zda zDX0_takeSign 88 rfl rfl) (by decide) (by decide))
    (zr_n (zr_s (zqr_gt C (zda zDX0_takeSign 90 rfl rfl) (by decide))
    (zr_n (zr_n (zr_s (zq_iload_n C (zda zDX0_takeSign 93 rfl rfl) rfl)
    (zr_s (zqr_if_le C (zda zDX0_takeSign 94 rfl rfl) (by decide))
    (zr_n zr_0))))))))))))))))
  (zrs_c (zr_n (zr_s (zq_aload_n C (zda zDX0_takeSign 97 rfl rfl) rfl)
    (zr_s (zq_iload_n C (zda zDX0_takeSign 98 rfl rfl) rfl)
    (zr_s (zq_iconst (n := .ofNat 1) C (zda zDX0_takeSign 99 rfl rfl) (by decide))
    (zr_s (zk_sub C (zda zDX0_takeSign 100 rfl rfl))
    (zr_s (zq_iconst (n := .ofNat 1) C (zda zDX0_takeSign 101 rfl rfl) (by decide))
    (zr_s (zq_iload_n C (zda zDX0_takeSign 102 rfl rfl) rfl)
    (zr_s (zq_bipush (n := .ofNat 97) C (zda zDX0_takeSign 103 rfl rfl) (by decide) (by decide))
    (zr_n (zr_s (zk_sub C (zda zDX0_takeSign 105 rfl rfl))
    (zr_s (zq_ishl C (zda zDX0_takeSign 106 rfl rfl))
    (zr_s (zk_callV (n := 2) C zXX_ok zTs_good hbc hbs (show zget zprog 28 = some mX0_takeHour from rfl) rfl rfl (show vwCl[0]? = some (RX0, TX0, 12) from rfl) zw516 zw513 zw515 zs17 zw3 (by decide +kernel) (zda zDX0_takeSign 107 rfl rfl))
    (zr_n (zr_n (zr_s (zk_goto C (zda zDX0_takeSign 110 rfl rfl) (by decide))
    (zr_n zr_0))))))))))))))))
  (zrs_c (zr_n (zr_s (zq_iconst (n := .negSucc 0) C (zda zDX0_takeSign 113 rfl rfl) (by decide))
    (zr_s (zk_ret1 (ty := .int) C hbc hbs rfl rfl (Or.inl ⟨(zda zDX0_takeSign 114 rfl rfl), by decide⟩))
    zr_0)))
  zrs_0))))))))
set_option maxRecDepth 100000 in
set_option maxHeartbeats 4000000 in
theorem okX0_takeWidth {l : Launch} {D : va_G} {tys : List (ClassId × FieldType)} {o : zO} {z : Nat} (E : zEnv tys) : zCodeOk l D vwCl tys o z (zXX o z) zTs zprog mX0_takeWidth := by
  intro p e R s m args below meth c0 Q ws0 hbc hbs C pc sem h
  replace hbc : R.cells = 0 := hbc
  replace hbs : R.slots = 0 := hbs
  replace C : zCx p R s m args meth c0 D vwCl tys z (zXX o z) zTs RX0 cX0_takeWidth 3 "takeWidth" := C
  refine zRows_get (P := fun pc sem => zOp p l e R s m args below meth c0 Q D vwCl tys o z (zXX o z) zTs zprog ws0 3 cX0_takeWidth (some .int) pc sem) (c := kX0_takeWidth) ?_ h
  unfold kX0_takeWidth
  exact (zrs_c (zr_s (zq_aload_n C (zda zDX0_takeWidth 0 rfl rfl) rfl)
    (zr_s (zq_get (k := 2) C (zda zDX0_takeWidth 1 rfl rfl) (show vwCl[0]? = some (RX0, TX0, 12) from rfl) zinX0 (by decide) zw250)
    (zr_n (zr_n (zr_s (zq_iload_n C (zda zDX0_takeWidth 4 rfl rfl) rfl)
    (zr_s (zq_iload_n C (zda zDX0_takeWidth 5 rfl rfl) rfl)
    (zr_s (zk_iast C (zda zDX0_takeWidth 6 rfl rfl))
    (zr_s (zq_aload_n C (zda zDX0_takeWidth 7 rfl rfl) rfl)
    (zr_s (zq_get (k := 0) C (zda zDX0_takeWidth 8 rfl rfl) (show vwCl[0]? = some (RX0, TX0, 12) from rfl) zinX0 (by decide) zw246)
    (zr_n (zr_n (zr_s (zq_iload_n C (zda zDX0_takeWidth 11 rfl rfl) rfl)
    (zr_s (zq_iconst (n := .ofNat 0) C (zda zDX0_takeWidth 12 rfl rfl) (by decide))
    (zr_s (zk_iast C (zda zDX0_takeWidth 13 rfl rfl))
    (zr_s (zq_iconst (n := .ofNat 2) C (zda zDX0_takeWidth 14 rfl rfl) (by decide))
    (zr_s (zk_ret1 (ty := .int) C hbc hbs rfl rfl (Or.inl ⟨(zda zDX0_takeWidth 15 rfl rfl), by decide⟩))
    zr_0))))))))))))))))
  zrs_0)
set_option maxRecDepth 100000 in
set_option maxHeartbeats 4000000 in
theorem okX0_watch {l : Launch} {D : va_G} {tys : List (ClassId × FieldType)} {o : zO} {z : Nat} (E : zEnv tys) : zCodeOk l D vwCl tys o z (zXX o z) zTs zprog mX0_watch := by
  intro p e R s m args below meth c0 Q ws0 hbc hbs C pc sem h
  replace hbc : R.cells = 0 := hbc
  replace hbs : R.slots = 0 := hbs
  replace C : zCx p R s m args meth c0 D vwCl tys z (zXX o z) zTs RX0 cX0_watch 5 "watch" := C
  refine zRows_get (P := fun pc sem => zOp p l e R s m args below meth c0 Q D vwCl tys o z (zXX o z) zTs zprog ws0 5 cX0_watch none pc sem) (c := kX0_watch) ?_ h
  unfold kX0_watch
  exact (zrs_c (zr_s (zq_aload_n C (zda zDX0_watch 0 rfl rfl) rfl)
    (zr_s (zq_iconst (n := .ofNat 0) C (zda zDX0_watch 1 rfl rfl) (by decide))
    (zr_s (zq_put (k := 10) C (zda zDX0_watch 2 rfl rfl) (show vwCl[0]? = some (RX0, TX0, 12) from rfl) zinX0 tyX0 tyX0_ok nmX0 (by decide) zw263 rfl (ty := .int) (by decide +kernel) rfl)
    (zr_n (zr_n (zr_s (zq_aload_n C (zda zDX0_watch 5 rfl rfl) rfl)
    (zr_s (zq_iconst (n := .ofNat 0) C (zda zDX0_watch 6 rfl rfl) (by decide))
    (zr_s (zq_put (k := 11) C (zda zDX0_watch 7 rfl rfl) (show vwCl[0]? = some (RX0, TX0, 12) from rfl) zinX0 tyX0 tyX0_ok nmX0 (by decide) zw265 rfl (ty := .int) (by decide +kernel) rfl)
    (zr_n (zr_n (zr_s (zq_aload_n C (zda zDX0_watch 10 rfl rfl) rfl)
    (zr_s (zq_get (k := 4) C (zda zDX0_watch 11 rfl rfl) (show vwCl[0]? = some (RX0, TX0, 12) from rfl) zinX0 (by decide) zw253)
    (zr_n (zr_n (zr_s (zq_iconst (n := .ofNat 0) C (zda zDX0_watch 14 rfl rfl) (by decide))
    (zr_s (zk_callS C zXX_ok zTs_good hbc hbs (show zget zprog 16 = some mJ7_fill_53178 from rfl) rfl rfl zw300 zw662 zw299 zw12 (by decide +kernel) (zda zDX0_watch 15 rfl rfl))
    zr_0))))))))))))))))
  (zrs_c (zr_n (zr_n (zr_s (zq_iconst (n := .negSucc 0) C (zda zDX0_watch 18 rfl rfl) (by decide))
    (zr_s (zq_istoreN_n C (zda zDX0_watch 19 rfl rfl) rfl (by decide))
    (zr_s (zq_iconst (n := .ofNat 0) C (zda zDX0_watch 20 rfl rfl) (by decide))
    (zr_s (zq_istoreN_n C (zda zDX0_watch 21 rfl rfl) rfl (by decide))
    (zr_s (zq_iload_n C (zda zDX0_watch 22 rfl rfl) rfl)
    (zr_s (zq_aload_n C (zda zDX0_watch 23 rfl rfl) rfl)
    (zr_s (zq_get (k := 7) C (zda zDX0_watch 24 rfl rfl) (show vwCl[0]? = some (RX0, TX0, 12) from rfl) zinX0 (by decide) zw257)
    (zr_n (zr_n (zr_s (zqr_ge C (zda zDX0_watch 27 rfl rfl) (by decide))
    (zr_n (zr_n (zr_s (zq_aload_n C (zda zDX0_watch 30 rfl rfl) rfl)
    (zr_s (zq_getN (k := 0) C (zda zDX0_watch 31 rfl rfl) (show vwCl[5]? = some (RX5, TX5, 6) from rfl) zinX5 (by decide) (fun U H h => zn18 h))
    zr_0))))))))))))))))
  (zrs_c (zr_n (zr_n (zr_s (zq_iload_n C (zda zDX0_watch 34 rfl rfl) rfl)
    (zr_s (zk_iald C (zda zDX0_watch 35 rfl rfl))
    (zr_s (zq_istoreN C (zda zDX0_watch 36 rfl rfl) (by decide))
    (zr_n (zr_s (zq_aload_n C (zda zDX0_watch 38 rfl rfl) rfl)
    (zr_s (zq_aload_n C (zda zDX0_watch 39 rfl rfl) rfl)
    (zr_s (zq_iload C (zda zDX0_watch 40 rfl rfl))
    (zr_n (zr_s (zq_iload_n C (zda zDX0_watch 42 rfl rfl) rfl)
    (zr_s (zk_callV (n := 3) C zXX_ok zTs_good hbc hbs (show zget zprog 23 = some mX0_isAble from rfl) rfl rfl (show vwCl[0]? = some (RX0, TX0, 12) from rfl) zw666 zw663 zw665 zs38 zw3 (by decide +kernel) (zda zDX0_watch 43 rfl rfl))
    (zr_n (zr_n (zr_s (zqr_if_eq C (zda zDX0_watch 46 rfl rfl) (by decide))
    (zr_n zr_0))))))))))))))))
  (zrs_c (zr_n (zr_s (zq_aload_n C (zda zDX0_watch 49 rfl rfl) rfl)
    (zr_s (zq_get (k := 4) C (zda zDX0_watch 50 rfl rfl) (show vwCl[0]? = some (RX0, TX0, 12) from rfl) zinX0 (by decide) zw253)
    (zr_n (zr_n (zr_s (zq_iload C (zda zDX0_watch 53 rfl rfl))
    (zr_n (zr_s (zk_iald C (zda zDX0_watch 55 rfl rfl))
    (zr_s (zq_aload_n C (zda zDX0_watch 56 rfl rfl) rfl)
    (zr_s (zq_get (k := 1) C (zda zDX0_watch 57 rfl rfl) (show vwCl[0]? = some (RX0, TX0, 12) from rfl) zinX0 (by decide) zw248)
    (zr_n (zr_n (zr_s (zq_iload C (zda zDX0_watch 60 rfl rfl))
    (zr_n (zr_s (zk_iald C (zda zDX0_watch 62 rfl rfl))
    (zr_s (zqr_lt C (zda zDX0_watch 63 rfl rfl) (by decide))
    zr_0))))))))))))))))
  (zrs_c (zr_n (zr_n (zr_s (zq_aload_n C (zda zDX0_watch 66 rfl rfl) rfl)
    (zr_s (zk_dup C (zda zDX0_watch 67 rfl rfl))
    (zr_s (zq_get (k := 10) C (zda zDX0_watch 68 rfl rfl) (show vwCl[0]? = some (RX0, TX0, 12) from rfl) zinX0 (by decide) zw263)
    (zr_n (zr_n (zr_s (zq_iconst (n := .ofNat 1) C (zda zDX0_watch 71 rfl rfl) (by decide))
    (zr_s (zq_iload_n C (zda zDX0_watch 72 rfl rfl) rfl)
    (zr_s (zq_ishl C (zda zDX0_watch 73 rfl rfl))
    (zr_s (zqb_or C (zda zDX0_watch 74 rfl rfl))
    (zr_s (zq_put (k := 10) C (zda zDX0_watch 75 rfl rfl) (show vwCl[0]? = some (RX0, TX0, 12) from rfl) zinX0 tyX0 tyX0_ok nmX0 (by decide) zw263 rfl (ty := .int) (by decide +kernel) rfl)
    (zr_n (zr_n (zr_s (zq_iconst (n := .negSucc 0) C (zda zDX0_watch 78 rfl rfl) (by decide))
    (zr_s (zq_istoreN_n C (zda zDX0_watch 79 rfl rfl) rfl (by decide))
    zr_0))))))))))))))))
  (zrs_c (zr_s (zk_goto C (zda zDX0_watch 80 rfl rfl) (by decide))
    (zr_n (zr_n (zr_s (zq_aload_n C (zda zDX0_watch 83 rfl rfl) rfl)
    (zr_s (zq_get (k := 4) C (zda zDX0_watch 84 rfl rfl) (show vwCl[0]? = some (RX0, TX0, 12) from rfl) zinX0 (by decide) zw253)
    (zr_n (zr_n (zr_s (zq_iload C (zda zDX0_watch 87 rfl rfl))
    (zr_n (zr_s (zk_dup2 C (zda zDX0_watch 89 rfl rfl))
    (zr_s (zk_iald C (zda zDX0_watch 90 rfl rfl))
    (zr_s (zq_iconst (n := .ofNat 1) C (zda zDX0_watch 91 rfl rfl) (by decide))
    (zr_s (zk_add C (zda zDX0_watch 92 rfl rfl))
    (zr_s (zk_iast C (zda zDX0_watch 93 rfl rfl))
    (zr_s (zq_aload_n C (zda zDX0_watch 94 rfl rfl) rfl)
    (zr_s (zk_dup C (zda zDX0_watch 95 rfl rfl))
    zr_0))))))))))))))))
  (zrs_c (zr_s (zq_get (k := 11) C (zda zDX0_watch 96 rfl rfl) (show vwCl[0]? = some (RX0, TX0, 12) from rfl) zinX0 (by decide) zw265)
    (zr_n (zr_n (zr_s (zq_iconst (n := .ofNat 1) C (zda zDX0_watch 99 rfl rfl) (by decide))
    (zr_s (zq_iload_n C (zda zDX0_watch 100 rfl rfl) rfl)
    (zr_s (zq_ishl C (zda zDX0_watch 101 rfl rfl))
    (zr_s (zqb_or C (zda zDX0_watch 102 rfl rfl))
    (zr_s (zq_put (k := 11) C (zda zDX0_watch 103 rfl rfl) (show vwCl[0]? = some (RX0, TX0, 12) from rfl) zinX0 tyX0 tyX0_ok nmX0 (by decide) zw265 rfl (ty := .int) (by decide +kernel) rfl)
    (zr_n (zr_n (zr_s (zq_aload_n C (zda zDX0_watch 106 rfl rfl) rfl)
    (zr_s (zq_iload_n C (zda zDX0_watch 107 rfl rfl) rfl)
    (zr_s (zq_iload C (zda zDX0_watch 108 rfl rfl))
    (zr_n (zr_s (zk_callV (n := 2) C zXX_ok zTs_good hbc hbs (show zget zprog 18 = some mX0_areTwo from rfl) rfl rfl (show vwCl[0]? = some (RX0, TX0, 12) from rfl) zw674 zw671 zw673 zs40 zw3 (by decide +kernel) (zda zDX0_watch 110 rfl rfl))
    (zr_n zr_0))))))))))))))))
  (zrs_c (zr_n (zr_s (zqr_if_eq C (zda zDX0_watch 113 rfl rfl) (by decide))
    (zr_n (zr_n (zr_s (zq_aload_n C (zda zDX0_watch 116 rfl rfl) rfl)
    (zr_s (zq_iload_n C (zda zDX0_watch 117 rfl rfl) rfl)
    (zr_s (zq_iload C (zda zDX0_watch 118 rfl rfl))
    (zr_n (zr_s (zk_callV (n := 2) C zXX_ok zTs_good hbc hbs (show zget zprog 19 = some mX0_differ from rfl) rfl rfl (show vwCl[0]? = some (RX0, TX0, 12) from rfl) zw678 zw675 zw677 zs41 zw3 (by decide +kernel) (zda zDX0_watch 120 rfl rfl))
    (zr_n (zr_n (zr_s (zq_aload_n C (zda zDX0_watch 123 rfl rfl) rfl)
    (zr_s (zq_get (k := 8) C (zda zDX0_watch 124 rfl rfl) (show vwCl[0]? = some (RX0, TX0, 12) from rfl) zinX0 (by decide) zw259)
    (zr_n (zr_n (zr_s (zqr_le C (zda zDX0_watch 127 rfl rfl) (by decide))
    zr_0))))))))))))))))
  (zrs_c (zr_n (zr_n (zr_s (zq_aload_n C (zda zDX0_watch 130 rfl rfl) rfl)
    (zr_s (zk_dup C (zda zDX0_watch 131 rfl rfl))
    (zr_s (zq_get (k := 10) C (zda zDX0_watch 132 rfl rfl) (show vwCl[0]? = some (RX0, TX0, 12) from rfl) zinX0 (by decide) zw263)
    (zr_n (zr_n (zr_s (zq_iconst (n := .ofNat 1) C (zda zDX0_watch 135 rfl rfl) (by decide))
    (zr_s (zq_iload_n C (zda zDX0_watch 136 rfl rfl) rfl)
    (zr_s (zq_ishl C (zda zDX0_watch 137 rfl rfl))
    (zr_s (zqb_or C (zda zDX0_watch 138 rfl rfl))
    (zr_s (zq_put (k := 10) C (zda zDX0_watch 139 rfl rfl) (show vwCl[0]? = some (RX0, TX0, 12) from rfl) zinX0 tyX0 tyX0_ok nmX0 (by decide) zw263 rfl (ty := .int) (by decide +kernel) rfl)
    (zr_n (zr_n (zr_s (zq_iload C (zda zDX0_watch 142 rfl rfl))
    (zr_n zr_0))))))))))))))))
  (zrs_c (zr_s (zq_istoreN_n C (zda zDX0_watch 144 rfl rfl) rfl (by decide))
    (zr_s (zk_inc (n := .ofNat 1) C (zda zDX0_watch 145 rfl rfl) (by decide) (by decide))
    (zr_n (zr_n (zr_s (zk_goto C (zda zDX0_watch 148 rfl rfl) (by decide))
    (zr_n (zr_n (zr_s (zk_ret0 C hbc hbs rfl (zda zDX0_watch 151 rfl rfl))
    zr_0))))))))
  zrs_0))))))))))
set_option maxRecDepth 100000 in
set_option maxHeartbeats 4000000 in
theorem okX1_add {l : Launch} {D : va_G} {tys : List (ClassId × FieldType)} {o : zO} {z : Nat} (E : zEnv tys) : zCodeOk l D vwCl tys o z (zXX o z) zTs zprog mX1_add := by
  intro p e R s m args below meth c0 Q ws0 hbc hbs C pc sem h
  replace hbc : R.cells = 0 := hbc
  replace hbs : R.slots = 0 := hbs
  replace C : zCx p R s m args meth c0 D vwCl tys z (zXX o z) zTs RX1 cX1_add 3 "add" := C
  refine zRows_get (P := fun pc sem => zOp p l e R s m args below meth c0 Q D vwCl tys o z (zXX o z) zTs zprog ws0 3 cX1_add none pc sem) (c := kX1_add) ?_ h
  unfold kX1_add
  exact (zrs_c (zr_s (zq_aload_n C (zda zDX1_add 0 rfl rfl) rfl)
    (zr_s (zq_get (k := 1) C (zda zDX1_add 1 rfl rfl) (show vwCl[1]? = some (RX1, TX1, 2) from rfl) zinX1 (by decide) zw414)
    (zr_n (zr_n (zr_s (zq_aload_n C (zda zDX1_add 4 rfl rfl) rfl)
    (zr_s (zq_get (k := 0) C (zda zDX1_add 5 rfl rfl) (show vwCl[1]? = some (RX1, TX1, 2) from rfl) zinX1 (by decide) zw413)
    (zr_n (zr_n (zr_s (zk_len C (zda zDX1_add 8 rfl rfl))
    (zr_s (zqr_ge C (zda zDX1_add 9 rfl rfl) (by decide))
    (zr_n (zr_n (zr_s (zq_aload_n C (zda zDX1_add 12 rfl rfl) rfl)
    (zr_s (zq_get (k := 0) C (zda zDX1_add 13 rfl rfl) (show vwCl[1]? = some (RX1, TX1, 2) from rfl) zinX1 (by decide) zw413)
    (zr_n (zr_n zr_0))))))))))))))))
  (zrs_c (zr_s (zq_aload_n C (zda zDX1_add 16 rfl rfl) rfl)
    (zr_s (zq_get (k := 1) C (zda zDX1_add 17 rfl rfl) (show vwCl[1]? = some (RX1, TX1, 2) from rfl) zinX1 (by decide) zw414)
    (zr_n (zr_n (zr_s (zq_lload_n C (zda zDX1_add 20 rfl rfl) rfl)
    (zr_s (zk_last C (zda zDX1_add 21 rfl rfl))
    (zr_s (zq_aload_n C (zda zDX1_add 22 rfl rfl) rfl)
    (zr_s (zk_dup C (zda zDX1_add 23 rfl rfl))
    (zr_s (zq_get (k := 1) C (zda zDX1_add 24 rfl rfl) (show vwCl[1]? = some (RX1, TX1, 2) from rfl) zinX1 (by decide) zw414)
    (zr_n (zr_n (zr_s (zq_iconst (n := .ofNat 1) C (zda zDX1_add 27 rfl rfl) (by decide))
    (zr_s (zk_add C (zda zDX1_add 28 rfl rfl))
    (zr_s (zq_put (k := 1) C (zda zDX1_add 29 rfl rfl) (show vwCl[1]? = some (RX1, TX1, 2) from rfl) zinX1 tyX1 tyX1_ok nmX1 (by decide) zw414 rfl (ty := .int) (by decide +kernel) rfl)
    (zr_n (zr_n zr_0))))))))))))))))
  (zrs_c (zr_s (zk_ret0 C hbc hbs rfl (zda zDX1_add 32 rfl rfl))
    zr_0)
  zrs_0)))
set_option maxRecDepth 100000 in
set_option maxHeartbeats 4000000 in
theorem okX1_at {l : Launch} {D : va_G} {tys : List (ClassId × FieldType)} {o : zO} {z : Nat} (E : zEnv tys) : zCodeOk l D vwCl tys o z (zXX o z) zTs zprog mX1_at := by
  intro p e R s m args below meth c0 Q ws0 hbc hbs C pc sem h
  replace hbc : R.cells = 0 := hbc
  replace hbs : R.slots = 0 := hbs
  replace C : zCx p R s m args meth c0 D vwCl tys z (zXX o z) zTs RX1 cX1_at 2 "at" := C
  refine zRows_get (P := fun pc sem => zOp p l e R s m args below meth c0 Q D vwCl tys o z (zXX o z) zTs zprog ws0 2 cX1_at (some .long) pc sem) (c := kX1_at) ?_ h
  unfold kX1_at
  exact (zrs_c (zr_s (zq_iload_n C (zda zDX1_at 0 rfl rfl) rfl)
    (zr_s (zqr_if_lt C (zda zDX1_at 1 rfl rfl) (by decide))
    (zr_n (zr_n (zr_s (zq_iload_n C (zda zDX1_at 4 rfl rfl) rfl)
    (zr_s (zq_aload_n C (zda zDX1_at 5 rfl rfl) rfl)
    (zr_s (zq_get (k := 1) C (zda zDX1_at 6 rfl rfl) (show vwCl[1]? = some (RX1, TX1, 2) from rfl) zinX1 (by decide) zw414)
    (zr_n (zr_n (zr_s (zqr_ge C (zda zDX1_at 9 rfl rfl) (by decide))
    (zr_n (zr_n (zr_s (zq_aload_n C (zda zDX1_at 12 rfl rfl) rfl)
    (zr_s (zq_get (k := 0) C (zda zDX1_at 13 rfl rfl) (show vwCl[1]? = some (RX1, TX1, 2) from rfl) zinX1 (by decide) zw413)
    (zr_n (zr_n zr_0))))))))))))))))
  (zrs_c (zr_s (zq_iload_n C (zda zDX1_at 16 rfl rfl) rfl)
    (zr_s (zk_lald C (zda zDX1_at 17 rfl rfl))
    (zr_s (zk_goto C (zda zDX1_at 18 rfl rfl) (by decide))
    (zr_n (zr_n (zr_s (zq_lconst (n := .ofNat 0) C (zda zDX1_at 21 rfl rfl) (by decide) (by decide))
    (zr_s (zk_ret1 C hbc hbs rfl rfl (Or.inr ⟨(zda zDX1_at 22 rfl rfl), rfl⟩))
    zr_0)))))))
  zrs_0))
set_option maxRecDepth 100000 in
set_option maxHeartbeats 4000000 in
theorem okX1_clear {l : Launch} {D : va_G} {tys : List (ClassId × FieldType)} {o : zO} {z : Nat} (E : zEnv tys) : zCodeOk l D vwCl tys o z (zXX o z) zTs zprog mX1_clear := by
  intro p e R s m args below meth c0 Q ws0 hbc hbs C pc sem h
  replace hbc : R.cells = 0 := hbc
  replace hbs : R.slots = 0 := hbs
  replace C : zCx p R s m args meth c0 D vwCl tys z (zXX o z) zTs RX1 cX1_clear 1 "clear" := C
  refine zRows_get (P := fun pc sem => zOp p l e R s m args below meth c0 Q D vwCl tys o z (zXX o z) zTs zprog ws0 1 cX1_clear none pc sem) (c := kX1_clear) ?_ h
  unfold kX1_clear
  exact (zrs_c (zr_s (zq_aload_n C (zda zDX1_clear 0 rfl rfl) rfl)
    (zr_s (zq_iconst (n := .ofNat 0) C (zda zDX1_clear 1 rfl rfl) (by decide))
    (zr_s (zq_put (k := 1) C (zda zDX1_clear 2 rfl rfl) (show vwCl[1]? = some (RX1, TX1, 2) from rfl) zinX1 tyX1 tyX1_ok nmX1 (by decide) zw414 rfl (ty := .int) (by decide +kernel) rfl)
    (zr_n (zr_n (zr_s (zk_ret0 C hbc hbs rfl (zda zDX1_clear 5 rfl rfl))
    zr_0))))))
  zrs_0)
set_option maxRecDepth 100000 in
set_option maxHeartbeats 4000000 in
theorem okX1_init {l : Launch} {D : va_G} {tys : List (ClassId × FieldType)} {o : zO} {z : Nat} (E : zEnv tys) : zCodeOk l D vwCl tys o z (zXX o z) zTs zprog mX1_init := by
  intro p e R s m args below meth c0 Q ws0 hbc hbs C pc sem h
  replace hbc : R.cells = 1 := hbc
  replace hbs : R.slots = 8 := hbs
  replace C : zCx p R s m args meth c0 D vwCl tys z (zXX o z) zTs RX1 cX1_init 1 "<init>" := C
  refine zRows_get (P := fun pc sem => zOp p l e R s m args below meth c0 Q D vwCl tys o z (zXX o z) zTs zprog ws0 1 cX1_init none pc sem) (c := kX1_init) ?_ h
  unfold kX1_init
  exact (zrs_c (zr_s (zq_aload_n C (zda zDX1_init 0 rfl rfl) rfl)
    (zr_s (zk_objInit C (zda zDX1_init 1 rfl rfl) zw412 zw29 zw30)
    (zr_n (zr_n (zr_s (zq_aload_n C (zda zDX1_init 4 rfl rfl) rfl)
    (zr_s (zq_bipush (n := .ofNat 8) C (zda zDX1_init 5 rfl rfl) (by decide) (by decide))
    (zr_n (zr_s (zq_newJ C hbc hbs (zda zDX1_init 7 rfl rfl) zw406 E.2.1)
    (zr_n (zr_s (zq_putF (k := 0) C (zda zDX1_init 9 rfl rfl) (show vwCl[1]? = some (RX1, TX1, 2) from rfl) zinX1 tyX1 tyX1_ok nmX1 (by decide) zw413 rfl rfl rfl (ty := (.array .long)) (by decide +kernel) rfl)
    (zr_n (zr_n (zr_s (zk_ret0 C hbc hbs rfl (zda zDX1_init 12 rfl rfl))
    zr_0)))))))))))))
  zrs_0)
set_option maxRecDepth 100000 in
set_option maxHeartbeats 4000000 in
theorem okX1_tell {l : Launch} {D : va_G} {tys : List (ClassId × FieldType)} {o : zO} {z : Nat} (E : zEnv tys) : zCodeOk l D vwCl tys o z (zXX o z) zTs zprog mX1_tell := by
  intro p e R s m args below meth c0 Q ws0 hbc hbs C pc sem h
  replace hbc : R.cells = 0 := hbc
  replace hbs : R.slots = 0 := hbs
  replace C : zCx p R s m args meth c0 D vwCl tys z (zXX o z) zTs RX1 cX1_tell 3 "tell" := C
  refine zRows_get (P := fun pc sem => zOp p l e R s m args below meth c0 Q D vwCl tys o z (zXX o z) zTs zprog ws0 3 cX1_tell none pc sem) (c := kX1_tell) ?_ h
  unfold kX1_tell
  exact (zrs_c (zr_s (zq_aload_n C (zda zDX1_tell 0 rfl rfl) rfl)
    (zr_s (zk_callV (n := 0) C zXX_ok zTs_good hbc hbs (show zget zprog 35 = some mX1_clear from rfl) rfl rfl (show vwCl[1]? = some (RX1, TX1, 2) from rfl) zw690 zw687 zw689 zs43 zw15 (by decide +kernel) (zda zDX1_tell 1 rfl rfl))
    (zr_n (zr_n (zr_s (zq_aload_n C (zda zDX1_tell 4 rfl rfl) rfl)
    (zr_s (zq_lload_n C (zda zDX1_tell 5 rfl rfl) rfl)
    (zr_s (zk_callV (n := 1) C zXX_ok zTs_good hbc hbs (show zget zprog 33 = some mX1_add from rfl) rfl rfl (show vwCl[1]? = some (RX1, TX1, 2) from rfl) zw694 zw691 zw693 zs44 zw15 (by decide +kernel) (zda zDX1_tell 6 rfl rfl))
    (zr_n (zr_n (zr_s (zk_ret0 C hbc hbs rfl (zda zDX1_tell 9 rfl rfl))
    zr_0))))))))))
  zrs_0)
set_option maxRecDepth 100000 in
set_option maxHeartbeats 4000000 in
theorem okX1_tell_ {l : Launch} {D : va_G} {tys : List (ClassId × FieldType)} {o : zO} {z : Nat} (E : zEnv tys) : zCodeOk l D vwCl tys o z (zXX o z) zTs zprog mX1_tell_ := by
  intro p e R s m args below meth c0 Q ws0 hbc hbs C pc sem h
  replace hbc : R.cells = 0 := hbc
  replace hbs : R.slots = 0 := hbs
  replace C : zCx p R s m args meth c0 D vwCl tys z (zXX o z) zTs RX1 cX1_tell_ 5 "tell" := C
  refine zRows_get (P := fun pc sem => zOp p l e R s m args below meth c0 Q D vwCl tys o z (zXX o z) zTs zprog ws0 5 cX1_tell_ none pc sem) (c := kX1_tell_) ?_ h
  unfold kX1_tell_
  exact (zrs_c (zr_s (zq_aload_n C (zda zDX1_tell_ 0 rfl rfl) rfl)
    (zr_s (zk_callV (n := 0) C zXX_ok zTs_good hbc hbs (show zget zprog 35 = some mX1_clear from rfl) rfl rfl (show vwCl[1]? = some (RX1, TX1, 2) from rfl) zw690 zw687 zw689 zs43 zw15 (by decide +kernel) (zda zDX1_tell_ 1 rfl rfl))
    (zr_n (zr_n (zr_s (zq_aload_n C (zda zDX1_tell_ 4 rfl rfl) rfl)
    (zr_s (zq_lload_n C (zda zDX1_tell_ 5 rfl rfl) rfl)
    (zr_s (zk_callV (n := 1) C zXX_ok zTs_good hbc hbs (show zget zprog 33 = some mX1_add from rfl) rfl rfl (show vwCl[1]? = some (RX1, TX1, 2) from rfl) zw694 zw691 zw693 zs44 zw15 (by decide +kernel) (zda zDX1_tell_ 6 rfl rfl))
    (zr_n (zr_n (zr_s (zq_aload_n C (zda zDX1_tell_ 9 rfl rfl) rfl)
    (zr_s (zq_lload_n C (zda zDX1_tell_ 10 rfl rfl) rfl)
    (zr_s (zk_callV (n := 1) C zXX_ok zTs_good hbc hbs (show zget zprog 33 = some mX1_add from rfl) rfl rfl (show vwCl[1]? = some (RX1, TX1, 2) from rfl) zw694 zw691 zw693 zs44 zw15 (by decide +kernel) (zda zDX1_tell_ 11 rfl rfl))
    (zr_n (zr_n (zr_s (zk_ret0 C hbc hbs rfl (zda zDX1_tell_ 14 rfl rfl))
    zr_0)))))))))))))))
  zrs_0)
set_option maxRecDepth 100000 in
set_option maxHeartbeats 4000000 in
theorem okX2_clear {l : Launch} {D : va_G} {tys : List (ClassId × FieldType)} {o : zO} {z : Nat} (E : zEnv tys) : zCodeOk l D vwCl tys o z (zXX o z) zTs zprog mX2_clear := by
  intro p e R s m args below meth c0 Q ws0 hbc hbs C pc sem h
  replace hbc : R.cells = 0 := hbc
  replace hbs : R.slots = 0 := hbs
  replace C : zCx p R s m args meth c0 D vwCl tys z (zXX o z) zTs RX2 cX2_clear 1 "clear" := C
  refine zRows_get (P := fun pc sem => zOp p l e R s m args below meth c0 Q D vwCl tys o z (zXX o z) zTs zprog ws0 1 cX2_clear none pc sem) (c := kX2_clear) ?_ h
  unfold kX2_clear
  exact (zrs_c (zr_s (zq_aload_n C (zda zDX2_clear 0 rfl rfl) rfl)
    (zr_s (zq_iconst (n := .ofNat 0) C (zda zDX2_clear 1 rfl rfl) (by decide))
    (zr_s (zq_put (k := 2) C (zda zDX2_clear 2 rfl rfl) (show vwCl[2]? = some (RX2, TX2, 3) from rfl) zinX2 tyX2 tyX2_ok nmX2 (by decide) zw342 rfl (ty := .int) (by decide +kernel) rfl)
    (zr_n (zr_n (zr_s (zk_ret0 C hbc hbs rfl (zda zDX2_clear 5 rfl rfl))
    zr_0))))))
  zrs_0)
set_option maxRecDepth 100000 in
set_option maxHeartbeats 4000000 in
theorem okX2_init {l : Launch} {D : va_G} {tys : List (ClassId × FieldType)} {o : zO} {z : Nat} (E : zEnv tys) : zCodeOk l D vwCl tys o z (zXX o z) zTs zprog mX2_init := by
  intro p e R s m args below meth c0 Q ws0 hbc hbs C pc sem h
  replace hbc : R.cells = 37 := hbc
  replace hbs : R.slots = 276 := hbs
  replace C : zCx p R s m args meth c0 D vwCl tys z (zXX o z) zTs RX2 cX2_init 2 "<init>" := C
  refine zRows_get (P := fun pc sem => zOp p l e R s m args below meth c0 Q D vwCl tys o z (zXX o z) zTs zprog ws0 2 cX2_init none pc sem) (c := kX2_init) ?_ h
  unfold kX2_init
  exact (zrs_c (zr_s (zq_aload_n C (zda zDX2_init 0 rfl rfl) rfl)
    (zr_s (zk_objInit C (zda zDX2_init 1 rfl rfl) zw336 zw29 zw30)
    (zr_n (zr_n (zr_s (zq_aload_n C (zda zDX2_init 4 rfl rfl) rfl)
    (zr_s (zq_bipush (n := .ofNat 12) C (zda zDX2_init 5 rfl rfl) (by decide) (by decide))
    (zr_n (zr_s (zk_newq (ci := 5) (Cn := "RockingHorse$State") C hbc hbs (zda zDX2_init 7 rfl rfl) zw337 (fun U H h => zxA h) rfl E.2.2.2.2)
    (zr_n (zr_n (zr_s (zq_putF (k := 0) C (zda zDX2_init 10 rfl rfl) (show vwCl[2]? = some (RX2, TX2, 3) from rfl) zinX2 tyX2 tyX2_ok nmX2 (by decide) zw340 rfl rfl rfl (ty := (.array (.object "RockingHorse$State"))) (by decide +kernel) rfl)
    (zr_n (zr_n (zr_s (zq_iconst (n := .ofNat 0) C (zda zDX2_init 13 rfl rfl) (by decide))
    (zr_s (zq_istoreN_n C (zda zDX2_init 14 rfl rfl) rfl (by decide))
    (zr_s (zq_iload_n C (zda zDX2_init 15 rfl rfl) rfl)
    zr_0))))))))))))))))
  (zrs_c (zr_s (zq_bipush (n := .ofNat 12) C (zda zDX2_init 16 rfl rfl) (by decide) (by decide))
    (zr_n (zr_s (zqr_ge C (zda zDX2_init 18 rfl rfl) (by decide))
    (zr_n (zr_n (zr_s (zq_aload_n C (zda zDX2_init 21 rfl rfl) rfl)
    (zr_s (zq_get (k := 0) C (zda zDX2_init 22 rfl rfl) (show vwCl[2]? = some (RX2, TX2, 3) from rfl) zinX2 (by decide) zw340)
    (zr_n (zr_n (zr_s (zq_iload_n C (zda zDX2_init 25 rfl rfl) rfl)
    (zr_s (zk_new C hbc hbs (zda zDX2_init 26 rfl rfl) (show vwCl[5]? = some (RX5, TX5, 6) from rfl) zinX5 tyX5 tyX5_ok zw337 zw293 zw11 zdfX5 (fun ad => zfrX5 o ad))
    (zr_n (zr_n (zr_s (zk_dup C (zda zDX2_init 29 rfl rfl))
    (zr_s (zk_callIN (n := 0) C zXX_ok zTs_good hbc hbs (show zget zprog 87 = some mX5_init from rfl) rfl rfl rfl zw296 (fun U H h => zn29 h) zw295 zw11 rfl (by decide +kernel) (zda zDX2_init 30 rfl rfl))
    (zr_n zr_0))))))))))))))))
  (zrs_c (zr_n (zr_s (zk_aast C (zda zDX2_init 33 rfl rfl) (fun _ _ => trivial))
    (zr_s (zk_inc (n := .ofNat 1) C (zda zDX2_init 34 rfl rfl) (by decide) (by decide))
    (zr_n (zr_n (zr_s (zk_goto C (zda zDX2_init 37 rfl rfl) (by decide))
    (zr_n (zr_n (zr_s (zk_ret0 C hbc hbs rfl (zda zDX2_init 40 rfl rfl))
    zr_0)))))))))
  zrs_0)))
set_option maxRecDepth 100000 in
set_option maxHeartbeats 4000000 in
theorem okX2_pop {l : Launch} {D : va_G} {tys : List (ClassId × FieldType)} {o : zO} {z : Nat} (E : zEnv tys) : zCodeOk l D vwCl tys o z (zXX o z) zTs zprog mX2_pop := by
  intro p e R s m args below meth c0 Q ws0 hbc hbs C pc sem h
  replace hbc : R.cells = 0 := hbc
  replace hbs : R.slots = 0 := hbs
  replace C : zCx p R s m args meth c0 D vwCl tys z (zXX o z) zTs RX2 cX2_pop 2 "pop" := C
  refine zRows_get (P := fun pc sem => zOp p l e R s m args below meth c0 Q D vwCl tys o z (zXX o z) zTs zprog ws0 2 cX2_pop (some .int) pc sem) (c := kX2_pop) ?_ h
  unfold kX2_pop
  exact (zrs_c (zr_s (zq_aload_n C (zda zDX2_pop 0 rfl rfl) rfl)
    (zr_s (zq_get (k := 2) C (zda zDX2_pop 1 rfl rfl) (show vwCl[2]? = some (RX2, TX2, 3) from rfl) zinX2 (by decide) zw342)
    (zr_n (zr_n (zr_s (zqr_if_ne C (zda zDX2_pop 4 rfl rfl) (by decide))
    (zr_n (zr_n (zr_s (zq_iconst (n := .negSucc 0) C (zda zDX2_pop 7 rfl rfl) (by decide))
    (zr_s (zk_ret1 (ty := .int) C hbc hbs rfl rfl (Or.inl ⟨(zda zDX2_pop 8 rfl rfl), by decide⟩))
    (zr_s (zq_aload_n C (zda zDX2_pop 9 rfl rfl) rfl)
    (zr_s (zq_aload_n C (zda zDX2_pop 10 rfl rfl) rfl)
    (zr_s (zq_get (k := 1) C (zda zDX2_pop 11 rfl rfl) (show vwCl[2]? = some (RX2, TX2, 3) from rfl) zinX2 (by decide) zw341)
    (zr_n (zr_n (zr_s (zq_bipush (n := .ofNat 12) C (zda zDX2_pop 14 rfl rfl) (by decide) (by decide))
    (zr_n zr_0))))))))))))))))
  (zrs_c (zr_s (zk_add C (zda zDX2_pop 16 rfl rfl))
    (zr_s (zq_iconst (n := .ofNat 1) C (zda zDX2_pop 17 rfl rfl) (by decide))
    (zr_s (zk_sub C (zda zDX2_pop 18 rfl rfl))
    (zr_s (zq_bipush (n := .ofNat 12) C (zda zDX2_pop 19 rfl rfl) (by decide) (by decide))
    (zr_n (zr_s (zq_irem C (zda zDX2_pop 21 rfl rfl))
    (zr_s (zq_put (k := 1) C (zda zDX2_pop 22 rfl rfl) (show vwCl[2]? = some (RX2, TX2, 3) from rfl) zinX2 tyX2 tyX2_ok nmX2 (by decide) zw341 rfl (ty := .int) (by decide +kernel) rfl)
    (zr_n (zr_n (zr_s (zq_aload_n C (zda zDX2_pop 25 rfl rfl) rfl)
    (zr_s (zk_dup C (zda zDX2_pop 26 rfl rfl))
    (zr_s (zq_get (k := 2) C (zda zDX2_pop 27 rfl rfl) (show vwCl[2]? = some (RX2, TX2, 3) from rfl) zinX2 (by decide) zw342)
    (zr_n (zr_n (zr_s (zq_iconst (n := .ofNat 1) C (zda zDX2_pop 30 rfl rfl) (by decide))
    (zr_s (zk_sub C (zda zDX2_pop 31 rfl rfl))
    zr_0))))))))))))))))
  (zrs_c (zr_s (zq_put (k := 2) C (zda zDX2_pop 32 rfl rfl) (show vwCl[2]? = some (RX2, TX2, 3) from rfl) zinX2 tyX2 tyX2_ok nmX2 (by decide) zw342 rfl (ty := .int) (by decide +kernel) rfl)
    (zr_n (zr_n (zr_s (zq_aload_n C (zda zDX2_pop 35 rfl rfl) rfl)
    (zr_s (zq_aload_n C (zda zDX2_pop 36 rfl rfl) rfl)
    (zr_s (zq_get (k := 0) C (zda zDX2_pop 37 rfl rfl) (show vwCl[2]? = some (RX2, TX2, 3) from rfl) zinX2 (by decide) zw340)
    (zr_n (zr_n (zr_s (zq_aload_n C (zda zDX2_pop 40 rfl rfl) rfl)
    (zr_s (zq_get (k := 1) C (zda zDX2_pop 41 rfl rfl) (show vwCl[2]? = some (RX2, TX2, 3) from rfl) zinX2 (by decide) zw341)
    (zr_n (zr_n (zr_s (zk_aald C (zda zDX2_pop 44 rfl rfl))
    (zr_s (zk_callVN (n := 1) C zXX_ok zTs_good hbc hbs (show zget zprog 85 = some mX5_copy from rfl) rfl rfl (show vwCl[5]? = some (RX5, TX5, 6) from rfl) zw614 (fun U H h => zn54 h) zw613 zs30 zw11 (by decide +kernel) (zda zDX2_pop 45 rfl rfl))
    (zr_n (zr_n zr_0))))))))))))))))
  (zrs_c (zr_s (zq_aload_n C (zda zDX2_pop 48 rfl rfl) rfl)
    (zr_s (zq_get (k := 2) C (zda zDX2_pop 49 rfl rfl) (show vwCl[2]? = some (RX2, TX2, 3) from rfl) zinX2 (by decide) zw342)
    (zr_n (zr_n (zr_s (zk_ret1 (ty := .int) C hbc hbs rfl rfl (Or.inl ⟨(zda zDX2_pop 52 rfl rfl), by decide⟩))
    zr_0)))))
  zrs_0))))
set_option maxRecDepth 100000 in
set_option maxHeartbeats 4000000 in
theorem okX2_push {l : Launch} {D : va_G} {tys : List (ClassId × FieldType)} {o : zO} {z : Nat} (E : zEnv tys) : zCodeOk l D vwCl tys o z (zXX o z) zTs zprog mX2_push := by
  intro p e R s m args below meth c0 Q ws0 hbc hbs C pc sem h
  replace hbc : R.cells = 0 := hbc
  replace hbs : R.slots = 0 := hbs
  replace C : zCx p R s m args meth c0 D vwCl tys z (zXX o z) zTs RX2 cX2_push 2 "push" := C
  refine zRows_get (P := fun pc sem => zOp p l e R s m args below meth c0 Q D vwCl tys o z (zXX o z) zTs zprog ws0 2 cX2_push none pc sem) (c := kX2_push) ?_ h
  unfold kX2_push
  exact (zrs_c (zr_s (zq_aload_n C (zda zDX2_push 0 rfl rfl) rfl)
    (zr_s (zq_get (k := 0) C (zda zDX2_push 1 rfl rfl) (show vwCl[2]? = some (RX2, TX2, 3) from rfl) zinX2 (by decide) zw340)
    (zr_n (zr_n (zr_s (zq_aload_n C (zda zDX2_push 4 rfl rfl) rfl)
    (zr_s (zq_get (k := 1) C (zda zDX2_push 5 rfl rfl) (show vwCl[2]? = some (RX2, TX2, 3) from rfl) zinX2 (by decide) zw341)
    (zr_n (zr_n (zr_s (zk_aald C (zda zDX2_push 8 rfl rfl))
    (zr_s (zq_aload_n C (zda zDX2_push 9 rfl rfl) rfl)
    (zr_s (zk_callVN (n := 1) C zXX_ok zTs_good hbc hbs (show zget zprog 85 = some mX5_copy from rfl) rfl rfl (show vwCl[5]? = some (RX5, TX5, 6) from rfl) zw614 (fun U H h => zn54 h) zw613 zs30 zw11 (by decide +kernel) (zda zDX2_push 10 rfl rfl))
    (zr_n (zr_n (zr_s (zq_aload_n C (zda zDX2_push 13 rfl rfl) rfl)
    (zr_s (zq_aload_n C (zda zDX2_push 14 rfl rfl) rfl)
    (zr_s (zq_get (k := 1) C (zda zDX2_push 15 rfl rfl) (show vwCl[2]? = some (RX2, TX2, 3) from rfl) zinX2 (by decide) zw341)
    zr_0))))))))))))))))
  (zrs_c (zr_n (zr_n (zr_s (zq_iconst (n := .ofNat 1) C (zda zDX2_push 18 rfl rfl) (by decide))
    (zr_s (zk_add C (zda zDX2_push 19 rfl rfl))
    (zr_s (zq_bipush (n := .ofNat 12) C (zda zDX2_push 20 rfl rfl) (by decide) (by decide))
    (zr_n (zr_s (zq_irem C (zda zDX2_push 22 rfl rfl))
    (zr_s (zq_put (k := 1) C (zda zDX2_push 23 rfl rfl) (show vwCl[2]? = some (RX2, TX2, 3) from rfl) zinX2 tyX2 tyX2_ok nmX2 (by decide) zw341 rfl (ty := .int) (by decide +kernel) rfl)
    (zr_n (zr_n (zr_s (zq_aload_n C (zda zDX2_push 26 rfl rfl) rfl)
    (zr_s (zq_aload_n C (zda zDX2_push 27 rfl rfl) rfl)
    (zr_s (zq_get (k := 2) C (zda zDX2_push 28 rfl rfl) (show vwCl[2]? = some (RX2, TX2, 3) from rfl) zinX2 (by decide) zw342)
    (zr_n (zr_n (zr_s (zq_iconst (n := .ofNat 1) C (zda zDX2_push 31 rfl rfl) (by decide))
    zr_0))))))))))))))))
  (zrs_c (zr_s (zk_add C (zda zDX2_push 32 rfl rfl))
    (zr_s (zq_bipush (n := .ofNat 12) C (zda zDX2_push 33 rfl rfl) (by decide) (by decide))
    (zr_n (zr_s (zq_min C hbc hbs (zda zDX2_push 35 rfl rfl) zw627 zw149 zw9 zw150)
    (zr_n (zr_n (zr_s (zq_put (k := 2) C (zda zDX2_push 38 rfl rfl) (show vwCl[2]? = some (RX2, TX2, 3) from rfl) zinX2 tyX2 tyX2_ok nmX2 (by decide) zw342 rfl (ty := .int) (by decide +kernel) rfl)
    (zr_n (zr_n (zr_s (zk_ret0 C hbc hbs rfl (zda zDX2_push 41 rfl rfl))
    zr_0))))))))))
  zrs_0)))
set_option maxRecDepth 100000 in
set_option maxHeartbeats 4000000 in
theorem okX3_await {l : Launch} {D : va_G} {tys : List (ClassId × FieldType)} {o : zO} {z : Nat} (E : zEnv tys) : zCodeOk l D vwCl tys o z (zXX o z) zTs zprog mX3_await := by
  intro p e R s m args below meth c0 Q ws0 hbc hbs C pc sem h
  replace hbc : R.cells = 0 := hbc
  replace hbs : R.slots = 0 := hbs
  replace C : zCx p R s m args meth c0 D vwCl tys z (zXX o z) zTs RX3 cX3_await 2 "await" := C
  refine zRows_get (P := fun pc sem => zOp p l e R s m args below meth c0 Q D vwCl tys o z (zXX o z) zTs zprog ws0 2 cX3_await none pc sem) (c := kX3_await) ?_ h
  unfold kX3_await
  exact (zrs_c (zr_s (zq_aload_n C (zda zDX3_await 0 rfl rfl) rfl)
    (zr_s (zq_get (k := 5) C (zda zDX3_await 1 rfl rfl) (show vwCl[3]? = some (RX3, TX3, 9) from rfl) zinX3 (by decide) zw221)
    (zr_n (zr_n (zr_s (zq_aload_n C (zda zDX3_await 4 rfl rfl) rfl)
    (zr_s (zq_get (k := 1) C (zda zDX3_await 5 rfl rfl) (show vwCl[3]? = some (RX3, TX3, 9) from rfl) zinX3 (by decide) zw217)
    (zr_n (zr_n (zr_s (zk_len C (zda zDX3_await 8 rfl rfl))
    (zr_s (zqr_ge C (zda zDX3_await 9 rfl rfl) (by decide))
    (zr_n (zr_n (zr_s (zq_aload_n C (zda zDX3_await 12 rfl rfl) rfl)
    (zr_s (zq_get (k := 1) C (zda zDX3_await 13 rfl rfl) (show vwCl[3]? = some (RX3, TX3, 9) from rfl) zinX3 (by decide) zw217)
    (zr_n (zr_n zr_0))))))))))))))))
  (zrs_c (zr_s (zq_aload_n C (zda zDX3_await 16 rfl rfl) rfl)
    (zr_s (zq_get (k := 5) C (zda zDX3_await 17 rfl rfl) (show vwCl[3]? = some (RX3, TX3, 9) from rfl) zinX3 (by decide) zw221)
    (zr_n (zr_n (zr_s (zq_iload_n C (zda zDX3_await 20 rfl rfl) rfl)
    (zr_s (zk_iast C (zda zDX3_await 21 rfl rfl))
    (zr_s (zq_aload_n C (zda zDX3_await 22 rfl rfl) rfl)
    (zr_s (zk_dup C (zda zDX3_await 23 rfl rfl))
    (zr_s (zq_get (k := 5) C (zda zDX3_await 24 rfl rfl) (show vwCl[3]? = some (RX3, TX3, 9) from rfl) zinX3 (by decide) zw221)
    (zr_n (zr_n (zr_s (zq_iconst (n := .ofNat 1) C (zda zDX3_await 27 rfl rfl) (by decide))
    (zr_s (zk_add C (zda zDX3_await 28 rfl rfl))
    (zr_s (zq_put (k := 5) C (zda zDX3_await 29 rfl rfl) (show vwCl[3]? = some (RX3, TX3, 9) from rfl) zinX3 tyX3 tyX3_ok nmX3 (by decide) zw221 rfl (ty := .int) (by decide +kernel) rfl)
    (zr_n (zr_n zr_0))))))))))))))))
  (zrs_c (zr_s (zk_ret0 C hbc hbs rfl (zda zDX3_await 32 rfl rfl))
    zr_0)
  zrs_0)))
set_option maxRecDepth 100000 in
set_option maxHeartbeats 4000000 in
theorem okX3_begin {l : Launch} {D : va_G} {tys : List (ClassId × FieldType)} {o : zO} {z : Nat} (E : zEnv tys) : zCodeOk l D vwCl tys o z (zXX o z) zTs zprog mX3_begin := by
  intro p e R s m args below meth c0 Q ws0 hbc hbs C pc sem h
  replace hbc : R.cells = 0 := hbc
  replace hbs : R.slots = 0 := hbs
  replace C : zCx p R s m args meth c0 D vwCl tys z (zXX o z) zTs RX3 cX3_begin 1 "begin" := C
  refine zRows_get (P := fun pc sem => zOp p l e R s m args below meth c0 Q D vwCl tys o z (zXX o z) zTs zprog ws0 1 cX3_begin none pc sem) (c := kX3_begin) ?_ h
  unfold kX3_begin
  exact (zrs_c (zr_s (zq_aload_n C (zda zDX3_begin 0 rfl rfl) rfl)
    (zr_s (zq_iconst (n := .ofNat 0) C (zda zDX3_begin 1 rfl rfl) (by decide))
    (zr_s (zq_put (k := 4) C (zda zDX3_begin 2 rfl rfl) (show vwCl[3]? = some (RX3, TX3, 9) from rfl) zinX3 tyX3 tyX3_ok nmX3 (by decide) zw220 rfl (ty := .int) (by decide +kernel) rfl)
    (zr_n (zr_n (zr_s (zq_aload_n C (zda zDX3_begin 5 rfl rfl) rfl)
    (zr_s (zq_iconst (n := .ofNat 0) C (zda zDX3_begin 6 rfl rfl) (by decide))
    (zr_s (zq_put (k := 5) C (zda zDX3_begin 7 rfl rfl) (show vwCl[3]? = some (RX3, TX3, 9) from rfl) zinX3 tyX3 tyX3_ok nmX3 (by decide) zw221 rfl (ty := .int) (by decide +kernel) rfl)
    (zr_n (zr_n (zr_s (zq_aload_n C (zda zDX3_begin 10 rfl rfl) rfl)
    (zr_s (zq_iconst (n := .ofNat 0) C (zda zDX3_begin 11 rfl rfl) (by decide))
    (zr_s (zq_put (k := 6) C (zda zDX3_begin 12 rfl rfl) (show vwCl[3]? = some (RX3, TX3, 9) from rfl) zinX3 tyX3 tyX3_ok nmX3 (by decide) zw222 rfl (ty := .int) (by decide +kernel) rfl)
    (zr_n (zr_n (zr_s (zq_aload_n C (zda zDX3_begin 15 rfl rfl) rfl)
    zr_0))))))))))))))))
  (zrs_c (zr_s (zq_iconst (n := .ofNat 0) C (zda zDX3_begin 16 rfl rfl) (by decide))
    (zr_s (zq_put (k := 7) C (zda zDX3_begin 17 rfl rfl) (show vwCl[3]? = some (RX3, TX3, 9) from rfl) zinX3 tyX3 tyX3_ok nmX3 (by decide) zw223 rfl (ty := .int) (by decide +kernel) rfl)
    (zr_n (zr_n (zr_s (zq_aload_n C (zda zDX3_begin 20 rfl rfl) rfl)
    (zr_s (zq_iconst (n := .ofNat 1) C (zda zDX3_begin 21 rfl rfl) (by decide))
    (zr_s (zq_put (k := 8) C (zda zDX3_begin 22 rfl rfl) (show vwCl[3]? = some (RX3, TX3, 9) from rfl) zinX3 tyX3 tyX3_ok nmX3 (by decide) zw224 rfl (ty := .boolean) (by decide +kernel) rfl)
    (zr_n (zr_n (zr_s (zq_aload_n C (zda zDX3_begin 25 rfl rfl) rfl)
    (zr_s (zq_get (k := 3) C (zda zDX3_begin 26 rfl rfl) (show vwCl[3]? = some (RX3, TX3, 9) from rfl) zinX3 (by decide) zw219)
    (zr_n (zr_n (zr_s (zq_iconst (n := .ofNat 0) C (zda zDX3_begin 29 rfl rfl) (by decide))
    (zr_s (zq_iconst (n := .ofNat 0) C (zda zDX3_begin 30 rfl rfl) (by decide))
    (zr_s (zk_bast C (zda zDX3_begin 31 rfl rfl))
    zr_0))))))))))))))))
  (zrs_c (zr_s (zk_ret0 C hbc hbs rfl (zda zDX3_begin 32 rfl rfl))
    zr_0)
  zrs_0)))
set_option maxRecDepth 100000 in
set_option maxHeartbeats 4000000 in
theorem okX3_binding {l : Launch} {D : va_G} {tys : List (ClassId × FieldType)} {o : zO} {z : Nat} (E : zEnv tys) : zCodeOk l D vwCl tys o z (zXX o z) zTs zprog mX3_binding := by
  intro p e R s m args below meth c0 Q ws0 hbc hbs C pc sem h
  replace hbc : R.cells = 0 := hbc
  replace hbs : R.slots = 0 := hbs
  replace C : zCx p R s m args meth c0 D vwCl tys z (zXX o z) zTs RX3 cX3_binding 1 "binding" := C
  refine zRows_get (P := fun pc sem => zOp p l e R s m args below meth c0 Q D vwCl tys o z (zXX o z) zTs zprog ws0 1 cX3_binding (some .int) pc sem) (c := kX3_binding) ?_ h
  unfold kX3_binding
  exact (zrs_c (zr_s (zq_iload_n C (zda zDX3_binding 0 rfl rfl) rfl)
    (zr_s (zk_lsw C (zda zDX3_binding 1 rfl rfl) (by decide) (by decide) (fun v => zswL (pc := 1) (ps := [(.ofNat 42, .ofNat 79), (.ofNat 43, .ofNat 77), (.ofNat 45, .ofNat 77), (.ofNat 47, .ofNat 79), (.ofNat 60, .ofNat 75), (.ofNat 61, .ofNat 75), (.ofNat 62, .ofNat 75), (.ofNat 256, .ofNat 81)]) (by decide) (by decide) v))
    (zr_n (zr_n (zr_n (zr_n (zr_n (zr_n (zr_n (zr_n (zr_n (zr_n (zr_n (zr_n (zr_n (zr_n zr_0))))))))))))))))
  (zrs_c (zr_n (zr_n (zr_n (zr_n (zr_n (zr_n (zr_n (zr_n (zr_n (zr_n (zr_n (zr_n (zr_n (zr_n (zr_n (zr_n zr_0))))))))))))))))
  (zrs_c (zr_n (zr_n (zr_n (zr_n (zr_n (zr_n (zr_n (zr_n (zr_n (zr_n (zr_n (zr_n (zr_n (zr_n (zr_n (zr_n zr_0))))))))))))))))
  (zrs_c (zr_n (zr_n (zr_n (zr_n (zr_n (zr_n (zr_n (zr_n (zr_n (zr_n (zr_n (zr_n (zr_n (zr_n (zr_n (zr_n zr_0))))))))))))))))
  (zrs_c (zr_n (zr_n (zr_n (zr_n (zr_n (zr_n (zr_n (zr_n (zr_n (zr_n (zr_n (zr_n (zr_s (zq_iconst (n := .ofNat 1) C (zda zDX3_binding 76 rfl rfl) (by decide))
    (zr_s (zk_ret1 (ty := .int) C hbc hbs rfl rfl (Or.inl ⟨(zda zDX3_binding 77 rfl rfl), by decide⟩))
    (zr_s (zq_iconst (n := .ofNat 2) C (zda zDX3_binding 78 rfl rfl) (by decide))
    (zr_s (zk_ret1 (ty := .int) C hbc hbs rfl rfl (Or.inl ⟨(zda zDX3_binding 79 rfl rfl), by decide⟩))
    zr_0))))))))))))))))
  (zrs_c (zr_s (zq_iconst (n := .ofNat 3) C (zda zDX3_binding 80 rfl rfl) (by decide))
    (zr_s (zk_ret1 (ty := .int) C hbc hbs rfl rfl (Or.inl ⟨(zda zDX3_binding 81 rfl rfl), by decide⟩))
    (zr_s (zq_iconst (n := .ofNat 4) C (zda zDX3_binding 82 rfl rfl) (by decide))
    (zr_s (zk_ret1 (ty := .int) C hbc hbs rfl rfl (Or.inl ⟨(zda zDX3_binding 83 rfl rfl), by decide⟩))
    (zr_s (zq_iconst (n := .ofNat 0) C (zda zDX3_binding 84 rfl rfl) (by decide))
    (zr_s (zk_ret1 (ty := .int) C hbc hbs rfl rfl (Or.inl ⟨(zda zDX3_binding 85 rfl rfl), by decide⟩))
    zr_0))))))
  zrs_0))))))
set_option maxRecDepth 100000 in
set_option maxHeartbeats 4000000 in
theorem okX3_closeBracket {l : Launch} {D : va_G} {tys : List (ClassId × FieldType)} {o : zO} {z : Nat} (E : zEnv tys) : zCodeOk l D vwCl tys o z (zXX o z) zTs zprog mX3_closeBracket := by
  intro p e R s m args below meth c0 Q ws0 hbc hbs C pc sem h
  replace hbc : R.cells = 0 := hbc
  replace hbs : R.slots = 0 := hbs
  replace C : zCx p R s m args meth c0 D vwCl tys z (zXX o z) zTs RX3 cX3_closeBracket 1 "closeBracket" := C
  refine zRows_get (P := fun pc sem => zOp p l e R s m args below meth c0 Q D vwCl tys o z (zXX o z) zTs zprog ws0 1 cX3_closeBracket (some .boolean) pc sem) (c := kX3_closeBracket) ?_ h
  unfold kX3_closeBracket
  exact (zrs_c (zr_s (zq_aload_n C (zda zDX3_closeBracket 0 rfl rfl) rfl)
    (zr_s (zq_get (k := 6) C (zda zDX3_closeBracket 1 rfl rfl) (show vwCl[3]? = some (RX3, TX3, 9) from rfl) zinX3 (by decide) zw222)
    (zr_n (zr_n (zr_s (zqr_if_ne C (zda zDX3_closeBracket 4 rfl rfl) (by decide))
    (zr_n (zr_n (zr_s (zq_iconst (n := .ofNat 0) C (zda zDX3_closeBracket 7 rfl rfl) (by decide))
    (zr_s (zk_ret1 (ty := .boolean) C hbc hbs rfl rfl (Or.inl ⟨(zda zDX3_closeBracket 8 rfl rfl), by decide⟩))
    (zr_s (zq_aload_n C (zda zDX3_closeBracket 9 rfl rfl) rfl)
    (zr_s (zq_iconst (n := .ofNat 1) C (zda zDX3_closeBracket 10 rfl rfl) (by decide))
    (zr_s (zk_callV (n := 1) C zXX_ok zTs_good hbc hbs (show zget zprog 54 = some mX3_reckonDownTo from rfl) rfl rfl (show vwCl[3]? = some (RX3, TX3, 9) from rfl) zw211 zw208 zw210 zs9 zw4 (by decide +kernel) (zda zDX3_closeBracket 11 rfl rfl))
    (zr_n (zr_n (zr_s (zq_aload_n C (zda zDX3_closeBracket 14 rfl rfl) rfl)
    (zr_s (zk_dup C (zda zDX3_closeBracket 15 rfl rfl))
    zr_0))))))))))))))))
  (zrs_c (zr_s (zq_get (k := 6) C (zda zDX3_closeBracket 16 rfl rfl) (show vwCl[3]? = some (RX3, TX3, 9) from rfl) zinX3 (by decide) zw222)
    (zr_n (zr_n (zr_s (zq_iconst (n := .ofNat 1) C (zda zDX3_closeBracket 19 rfl rfl) (by decide))
    (zr_s (zk_sub C (zda zDX3_closeBracket 20 rfl rfl))
    (zr_s (zq_put (k := 6) C (zda zDX3_closeBracket 21 rfl rfl) (show vwCl[3]? = some (RX3, TX3, 9) from rfl) zinX3 tyX3 tyX3_ok nmX3 (by decide) zw222 rfl (ty := .int) (by decide +kernel) rfl)
    (zr_n (zr_n (zr_s (zq_aload_n C (zda zDX3_closeBracket 24 rfl rfl) rfl)
    (zr_s (zq_iconst (n := .ofNat 0) C (zda zDX3_closeBracket 25 rfl rfl) (by decide))
    (zr_s (zq_aload_n C (zda zDX3_closeBracket 26 rfl rfl) rfl)
    (zr_s (zq_get (k := 5) C (zda zDX3_closeBracket 27 rfl rfl) (show vwCl[3]? = some (RX3, TX3, 9) from rfl) zinX3 (by decide) zw221)
    (zr_n (zr_n (zr_s (zq_iconst (n := .ofNat 1) C (zda zDX3_closeBracket 30 rfl rfl) (by decide))
    (zr_s (zk_sub C (zda zDX3_closeBracket 31 rfl rfl))
    zr_0))))))))))))))))
  (zrs_c (zr_s (zq_max C hbc hbs (zda zDX3_closeBracket 32 rfl rfl) zw215 zw146 zw9 zw147)
    (zr_n (zr_n (zr_s (zq_put (k := 5) C (zda zDX3_closeBracket 35 rfl rfl) (show vwCl[3]? = some (RX3, TX3, 9) from rfl) zinX3 tyX3 tyX3_ok nmX3 (by decide) zw221 rfl (ty := .int) (by decide +kernel) rfl)
    (zr_n (zr_n (zr_s (zq_iconst (n := .ofNat 1) C (zda zDX3_closeBracket 38 rfl rfl) (by decide))
    (zr_s (zk_ret1 (ty := .boolean) C hbc hbs rfl rfl (Or.inl ⟨(zda zDX3_closeBracket 39 rfl rfl), by decide⟩))
    zr_0))))))))
  zrs_0)))
set_option maxRecDepth 100000 in
set_option maxHeartbeats 4000000 in
theorem okX3_emit {l : Launch} {D : va_G} {tys : List (ClassId × FieldType)} {o : zO} {z : Nat} (E : zEnv tys) : zCodeOk l D vwCl tys o z (zXX o z) zTs zprog mX3_emit := by
  intro p e R s m args below meth c0 Q ws0 hbc hbs C pc sem h
  replace hbc : R.cells = 0 := hbc
  replace hbs : R.slots = 0 := hbs
  replace C : zCx p R s m args meth c0 D vwCl tys z (zXX o z) zTs RX3 cX3_emit 2 "emit" := C
  refine zRows_get (P := fun pc sem => zOp p l e R s m args below meth c0 Q D vwCl tys o z (zXX o z) zTs zprog ws0 2 cX3_emit none pc sem) (c := kX3_emit) ?_ h
  unfold kX3_emit
  exact (zrs_c (zr_s (zq_aload_n C (zda zDX3_emit 0 rfl rfl) rfl)
    (zr_s (zq_get (k := 4) C (zda zDX3_emit 1 rfl rfl) (show vwCl[3]? = some (RX3, TX3, 9) from rfl) zinX3 (by decide) zw220)
    (zr_n (zr_n (zr_s (zq_aload_n C (zda zDX3_emit 4 rfl rfl) rfl)
    (zr_s (zq_get (k := 0) C (zda zDX3_emit 5 rfl rfl) (show vwCl[3]? = some (RX3, TX3, 9) from rfl) zinX3 (by decide) zw216)
    (zr_n (zr_n (zr_s (zk_len C (zda zDX3_emit 8 rfl rfl))
    (zr_s (zqr_ge C (zda zDX3_emit 9 rfl rfl) (by decide))
    (zr_n (zr_n (zr_s (zq_aload_n C (zda zDX3_emit 12 rfl rfl) rfl)
    (zr_s (zq_get (k := 0) C (zda zDX3_emit 13 rfl rfl) (show vwCl[3]? = some (RX3, TX3, 9) from rfl) zinX3 (by decide) zw216)
    (zr_n (zr_n zr_0))))))))))))))))
  (zrs_c (zr_s (zq_aload_n C (zda zDX3_emit 16 rfl rfl) rfl)
    (zr_s (zq_get (k := 4) C (zda zDX3_emit 17 rfl rfl) (show vwCl[3]? = some (RX3, TX3, 9) from rfl) zinX3 (by decide) zw220)
    (zr_n (zr_n (zr_s (zq_iload_n C (zda zDX3_emit 20 rfl rfl) rfl)
    (zr_s (zk_iast C (zda zDX3_emit 21 rfl rfl))
    (zr_s (zq_aload_n C (zda zDX3_emit 22 rfl rfl) rfl)
    (zr_s (zk_dup C (zda zDX3_emit 23 rfl rfl))
    (zr_s (zq_get (k := 4) C (zda zDX3_emit 24 rfl rfl) (show vwCl[3]? = some (RX3, TX3, 9) from rfl) zinX3 (by decide) zw220)
    (zr_n (zr_n (zr_s (zq_iconst (n := .ofNat 1) C (zda zDX3_emit 27 rfl rfl) (by decide))
    (zr_s (zk_add C (zda zDX3_emit 28 rfl rfl))
    (zr_s (zq_put (k := 4) C (zda zDX3_emit 29 rfl rfl) (show vwCl[3]? = some (RX3, TX3, 9) from rfl) zinX3 tyX3 tyX3_ok nmX3 (by decide) zw220 rfl (ty := .int) (by decide +kernel) rfl)
    (zr_n (zr_n zr_0))))))))))))))))
  (zrs_c (zr_s (zk_ret0 C hbc hbs rfl (zda zDX3_emit 32 rfl rfl))
    zr_0)
  zrs_0)))
set_option maxRecDepth 100000 in
set_option maxHeartbeats 4000000 in
theorem okX3_init {l : Launch} {D : va_G} {tys : List (ClassId × FieldType)} {o : zO} {z : Nat} (E : zEnv tys) : zCodeOk l D vwCl tys o z (zXX o z) zTs zprog mX3_init := by
  intro p e R s m args below meth c0 Q ws0 hbc hbs C pc sem h
  replace hbc : R.cells = 4 := hbc
  replace hbs : R.slots = 125 := hbs
  replace C : zCx p R s m args meth c0 D vwCl tys z (zXX o z) zTs RX3 cX3_init 1 "<init>" := C
  refine zRows_get (P := fun pc sem => zOp p l e R s m args below meth c0 Q D vwCl tys o z (zXX o z) zTs zprog ws0 1 cX3_init none pc sem) (c := kX3_init) ?_ h
  unfold kX3_init
  exact (zrs_c (zr_s (zq_aload_n C (zda zDX3_init 0 rfl rfl) rfl)
    (zr_s (zk_objInit C (zda zDX3_init 1 rfl rfl) zw59 zw29 zw30)
    (zr_n (zr_n (zr_s (zq_aload_n C (zda zDX3_init 4 rfl rfl) rfl)
    (zr_s (zq_bipush (n := .ofNat 40) C (zda zDX3_init 5 rfl rfl) (by decide) (by decide))
    (zr_n (zr_s (zq_newI C hbc hbs (zda zDX3_init 7 rfl rfl) zw47 E.1)
    (zr_n (zr_s (zq_putF (k := 0) C (zda zDX3_init 9 rfl rfl) (show vwCl[3]? = some (RX3, TX3, 9) from rfl) zinX3 tyX3 tyX3_ok nmX3 (by decide) zw216 rfl rfl rfl (ty := (.array .int)) (by decide +kernel) rfl)
    (zr_n (zr_n (zr_s (zq_aload_n C (zda zDX3_init 12 rfl rfl) rfl)
    (zr_s (zq_bipush (n := .ofNat 40) C (zda zDX3_init 13 rfl rfl) (by decide) (by decide))
    (zr_n (zr_s (zq_newI C hbc hbs (zda zDX3_init 15 rfl rfl) zw47 E.1)
    zr_0))))))))))))))))
  (zrs_c (zr_n (zr_s (zq_putF (k := 1) C (zda zDX3_init 17 rfl rfl) (show vwCl[3]? = some (RX3, TX3, 9) from rfl) zinX3 tyX3 tyX3_ok nmX3 (by decide) zw217 rfl rfl rfl (ty := (.array .int)) (by decide +kernel) rfl)
    (zr_n (zr_n (zr_s (zq_aload_n C (zda zDX3_init 20 rfl rfl) rfl)
    (zr_s (zq_bipush (n := .ofNat 40) C (zda zDX3_init 21 rfl rfl) (by decide) (by decide))
    (zr_n (zr_s (zq_newI C hbc hbs (zda zDX3_init 23 rfl rfl) zw47 E.1)
    (zr_n (zr_s (zq_putF (k := 2) C (zda zDX3_init 25 rfl rfl) (show vwCl[3]? = some (RX3, TX3, 9) from rfl) zinX3 tyX3 tyX3_ok nmX3 (by decide) zw218 rfl rfl rfl (ty := (.array .int)) (by decide +kernel) rfl)
    (zr_n (zr_n (zr_s (zq_aload_n C (zda zDX3_init 28 rfl rfl) rfl)
    (zr_s (zq_iconst (n := .ofNat 5) C (zda zDX3_init 29 rfl rfl) (by decide))
    (zr_s (zq_newZ C hbc hbs (zda zDX3_init 30 rfl rfl) zw244 E.2.2.1)
    (zr_n zr_0))))))))))))))))
  (zrs_c (zr_s (zq_putF (k := 3) C (zda zDX3_init 32 rfl rfl) (show vwCl[3]? = some (RX3, TX3, 9) from rfl) zinX3 tyX3 tyX3_ok nmX3 (by decide) zw219 rfl rfl rfl (ty := (.array .boolean)) (by decide +kernel) rfl)
    (zr_n (zr_n (zr_s (zq_aload_n C (zda zDX3_init 35 rfl rfl) rfl)
    (zr_s (zk_callV (n := 0) C zXX_ok zTs_good hbc hbs (show zget zprog 52 = some mX3_readFirst from rfl) rfl rfl (show vwCl[3]? = some (RX3, TX3, 9) from rfl) zw63 zw60 zw62 zs0 zw4 (by decide +kernel) (zda zDX3_init 36 rfl rfl))
    (zr_n (zr_n (zr_s (zk_ret0 C hbc hbs rfl (zda zDX3_init 39 rfl rfl))
    zr_0))))))))
  zrs_0)))
set_option maxRecDepth 100000 in
set_option maxHeartbeats 4000000 in
theorem okX3_openBracket {l : Launch} {D : va_G} {tys : List (ClassId × FieldType)} {o : zO} {z : Nat} (E : zEnv tys) : zCodeOk l D vwCl tys o z (zXX o z) zTs zprog mX3_openBracket := by
  intro p e R s m args below meth c0 Q ws0 hbc hbs C pc sem h
  replace hbc : R.cells = 0 := hbc
  replace hbs : R.slots = 0 := hbs
  replace C : zCx p R s m args meth c0 D vwCl tys z (zXX o z) zTs RX3 cX3_openBracket 1 "openBracket" := C
  refine zRows_get (P := fun pc sem => zOp p l e R s m args below meth c0 Q D vwCl tys o z (zXX o z) zTs zprog ws0 1 cX3_openBracket (some .boolean) pc sem) (c := kX3_openBracket) ?_ h
  unfold kX3_openBracket
  exact (zrs_c (zr_s (zq_aload_n C (zda zDX3_openBracket 0 rfl rfl) rfl)
    (zr_s (zq_get (k := 6) C (zda zDX3_openBracket 1 rfl rfl) (show vwCl[3]? = some (RX3, TX3, 9) from rfl) zinX3 (by decide) zw222)
    (zr_n (zr_n (zr_s (zq_iconst (n := .ofNat 4) C (zda zDX3_openBracket 4 rfl rfl) (by decide))
    (zr_s (zqr_lt C (zda zDX3_openBracket 5 rfl rfl) (by decide))
    (zr_n (zr_n (zr_s (zq_iconst (n := .ofNat 0) C (zda zDX3_openBracket 8 rfl rfl) (by decide))
    (zr_s (zk_ret1 (ty := .boolean) C hbc hbs rfl rfl (Or.inl ⟨(zda zDX3_openBracket 9 rfl rfl), by decide⟩))
    (zr_s (zq_aload_n C (zda zDX3_openBracket 10 rfl rfl) rfl)
    (zr_s (zk_dup C (zda zDX3_openBracket 11 rfl rfl))
    (zr_s (zq_get (k := 6) C (zda zDX3_openBracket 12 rfl rfl) (show vwCl[3]? = some (RX3, TX3, 9) from rfl) zinX3 (by decide) zw222)
    (zr_n (zr_n (zr_s (zq_iconst (n := .ofNat 1) C (zda zDX3_openBracket 15 rfl rfl) (by decide))
    zr_0))))))))))))))))
  (zrs_c (zr_s (zk_add C (zda zDX3_openBracket 16 rfl rfl))
    (zr_s (zq_put (k := 6) C (zda zDX3_openBracket 17 rfl rfl) (show vwCl[3]? = some (RX3, TX3, 9) from rfl) zinX3 tyX3 tyX3_ok nmX3 (by decide) zw222 rfl (ty := .int) (by decide +kernel) rfl)
    (zr_n (zr_n (zr_s (zq_aload_n C (zda zDX3_openBracket 20 rfl rfl) rfl)
    (zr_s (zq_get (k := 3) C (zda zDX3_openBracket 21 rfl rfl) (show vwCl[3]? = some (RX3, TX3, 9) from rfl) zinX3 (by decide) zw219)
    (zr_n (zr_n (zr_s (zq_aload_n C (zda zDX3_openBracket 24 rfl rfl) rfl)
    (zr_s (zq_get (k := 6) C (zda zDX3_openBracket 25 rfl rfl) (show vwCl[3]? = some (RX3, TX3, 9) from rfl) zinX3 (by decide) zw222)
    (zr_n (zr_n (zr_s (zq_iconst (n := .ofNat 0) C (zda zDX3_openBracket 28 rfl rfl) (by decide))
    (zr_s (zk_bast C (zda zDX3_openBracket 29 rfl rfl))
    (zr_s (zq_aload_n C (zda zDX3_openBracket 30 rfl rfl) rfl)
    (zr_s (zq_bipush (n := .ofNat 40) C (zda zDX3_openBracket 31 rfl rfl) (by decide) (by decide))
    zr_0))))))))))))))))
  (zrs_c (zr_n (zr_s (zk_callV (n := 1) C zXX_ok zTs_good hbc hbs (show zget zprog 43 = some mX3_await from rfl) rfl rfl (show vwCl[3]? = some (RX3, TX3, 9) from rfl) zw124 zw121 zw123 zs3 zw4 (by decide +kernel) (zda zDX3_openBracket 33 rfl rfl))
    (zr_n (zr_n (zr_s (zq_iconst (n := .ofNat 1) C (zda zDX3_openBracket 36 rfl rfl) (by decide))
    (zr_s (zk_ret1 (ty := .boolean) C hbc hbs rfl rfl (Or.inl ⟨(zda zDX3_openBracket 37 rfl rfl), by decide⟩))
    zr_0))))))
  zrs_0)))
set_option maxRecDepth 100000 in
set_option maxHeartbeats 4000000 in
theorem okX3_push {l : Launch} {D : va_G} {tys : List (ClassId × FieldType)} {o : zO} {z : Nat} (E : zEnv tys) : zCodeOk l D vwCl tys o z (zXX o z) zTs zprog mX3_push := by
  intro p e R s m args below meth c0 Q ws0 hbc hbs C pc sem h
  replace hbc : R.cells = 0 := hbc
  replace hbs : R.slots = 0 := hbs
  replace C : zCx p R s m args meth c0 D vwCl tys z (zXX o z) zTs RX3 cX3_push 3 "push" := C
  refine zRows_get (P := fun pc sem => zOp p l e R s m args below meth c0 Q D vwCl tys o z (zXX o z) zTs zprog ws0 3 cX3_push (some .int) pc sem) (c := kX3_push) ?_ h
  unfold kX3_push
  exact (zrs_c (zr_s (zq_iload_n C (zda zDX3_push 0 rfl rfl) rfl)
    (zr_s (zq_aload_n C (zda zDX3_push 1 rfl rfl) rfl)
    (zr_s (zq_get (k := 2) C (zda zDX3_push 2 rfl rfl) (show vwCl[3]? = some (RX3, TX3, 9) from rfl) zinX3 (by decide) zw218)
    (zr_n (zr_n (zr_s (zk_len C (zda zDX3_push 5 rfl rfl))
    (zr_s (zqr_lt C (zda zDX3_push 6 rfl rfl) (by decide))
    (zr_n (zr_n (zr_s (zq_iload_n C (zda zDX3_push 9 rfl rfl) rfl)
    (zr_s (zk_ret1 (ty := .int) C hbc hbs rfl rfl (Or.inl ⟨(zda zDX3_push 10 rfl rfl), by decide⟩))
    (zr_s (zq_aload_n C (zda zDX3_push 11 rfl rfl) rfl)
    (zr_s (zq_get (k := 2) C (zda zDX3_push 12 rfl rfl) (show vwCl[3]? = some (RX3, TX3, 9) from rfl) zinX3 (by decide) zw218)
    (zr_n (zr_n (zr_s (zq_iload_n C (zda zDX3_push 15 rfl rfl) rfl)
    zr_0))))))))))))))))
  (zrs_c (zr_s (zq_iload_n C (zda zDX3_push 16 rfl rfl) rfl)
    (zr_s (zk_iast C (zda zDX3_push 17 rfl rfl))
    (zr_s (zq_iload_n C (zda zDX3_push 18 rfl rfl) rfl)
    (zr_s (zq_iconst (n := .ofNat 1) C (zda zDX3_push 19 rfl rfl) (by decide))
    (zr_s (zk_add C (zda zDX3_push 20 rfl rfl))
    (zr_s (zk_ret1 (ty := .int) C hbc hbs rfl rfl (Or.inl ⟨(zda zDX3_push 21 rfl rfl), by decide⟩))
    zr_0))))))
  zrs_0))
set_option maxRecDepth 100000 in
set_option maxHeartbeats 4000000 in
theorem okX3_read {l : Launch} {D : va_G} {tys : List (ClassId × FieldType)} {o : zO} {z : Nat} (E : zEnv tys) : zCodeOk l D vwCl tys o z (zXX o z) zTs zprog mX3_read := by
  intro p e R s m args below meth c0 Q ws0 hbc hbs C pc sem h
  replace hbc : R.cells = 0 := hbc
  replace hbs : R.slots = 0 := hbs
  replace C : zCx p R s m args meth c0 D vwCl tys z (zXX o z) zTs RX3 cX3_read 6 "read" := C
  refine zRows_get (P := fun pc sem => zOp p l e R s m args below meth c0 Q D vwCl tys o z (zXX o z) zTs zprog ws0 6 cX3_read (some .int) pc sem) (c := kX3_read) ?_ h
  unfold kX3_read
  exact (zrs_c (zr_s (zq_aload_n C (zda zDX3_read 0 rfl rfl) rfl)
    (zr_s (zq_getN (k := 1) C (zda zDX3_read 1 rfl rfl) (show vwCl[6]? = some (RX6, TX6, 2) from rfl) zinX6 (by decide) (fun U H h => zn1 h))
    (zr_n (zr_n (zr_s (zqr_if_ne C (zda zDX3_read 4 rfl rfl) (by decide))
    (zr_n (zr_n (zr_s (zq_aload_n C (zda zDX3_read 7 rfl rfl) rfl)
    (zr_s (zk_callV (n := 0) C zXX_ok zTs_good hbc hbs (show zget zprog 52 = some mX3_readFirst from rfl) rfl rfl (show vwCl[3]? = some (RX3, TX3, 9) from rfl) zw63 zw60 zw62 zs0 zw4 (by decide +kernel) (zda zDX3_read 8 rfl rfl))
    (zr_n (zr_n (zr_s (zq_iconst (n := .negSucc 0) C (zda zDX3_read 11 rfl rfl) (by decide))
    (zr_s (zk_ret1 (ty := .int) C hbc hbs rfl rfl (Or.inl ⟨(zda zDX3_read 12 rfl rfl), by decide⟩))
    (zr_s (zq_aload_n C (zda zDX3_read 13 rfl rfl) rfl)
    (zr_s (zk_callV (n := 0) C zXX_ok zTs_good hbc hbs (show zget zprog 44 = some mX3_begin from rfl) rfl rfl (show vwCl[3]? = some (RX3, TX3, 9) from rfl) zw67 zw64 zw66 zs1 zw4 (by decide +kernel) (zda zDX3_read 14 rfl rfl))
    (zr_n zr_0))))))))))))))))
  (zrs_c (zr_n (zr_s (zq_aload_n C (zda zDX3_read 17 rfl rfl) rfl)
    (zr_s (zq_getN (k := 1) C (zda zDX3_read 18 rfl rfl) (show vwCl[6]? = some (RX6, TX6, 2) from rfl) zinX6 (by decide) (fun U H h => zn1 h))
    (zr_n (zr_n (zr_s (zq_bipush (n := .ofNat 40) C (zda zDX3_read 21 rfl rfl) (by decide) (by decide))
    (zr_n (zr_s (zq_min C hbc hbs (zda zDX3_read 23 rfl rfl) zw541 zw149 zw9 zw150)
    (zr_n (zr_n (zr_s (zq_istoreN_n C (zda zDX3_read 26 rfl rfl) rfl (by decide))
    (zr_s (zq_iconst (n := .ofNat 0) C (zda zDX3_read 27 rfl rfl) (by decide))
    (zr_s (zq_istoreN_n C (zda zDX3_read 28 rfl rfl) rfl (by decide))
    (zr_s (zq_iload_n C (zda zDX3_read 29 rfl rfl) rfl)
    (zr_s (zq_iload_n C (zda zDX3_read 30 rfl rfl) rfl)
    (zr_s (zqr_ge C (zda zDX3_read 31 rfl rfl) (by decide))
    zr_0))))))))))))))))
  (zrs_c (zr_n (zr_n (zr_s (zq_aload_n C (zda zDX3_read 34 rfl rfl) rfl)
    (zr_s (zq_iload_n C (zda zDX3_read 35 rfl rfl) rfl)
    (zr_s (zk_callVN (n := 1) C zXX_ok zTs_good hbc hbs (show zget zprog 93 = some mX6_at from rfl) rfl rfl (show vwCl[6]? = some (RX6, TX6, 2) from rfl) zw500 (fun U H h => zn45 h) zw499 zs13 zw2 (by decide +kernel) (zda zDX3_read 36 rfl rfl))
    (zr_n (zr_n (zr_s (zq_istoreN C (zda zDX3_read 39 rfl rfl) (by decide))
    (zr_n (zr_s (zq_aload_n C (zda zDX3_read 41 rfl rfl) rfl)
    (zr_s (zq_get (k := 8) C (zda zDX3_read 42 rfl rfl) (show vwCl[3]? = some (RX3, TX3, 9) from rfl) zinX3 (by decide) zw224)
    (zr_n (zr_n (zr_s (zqr_if_eq C (zda zDX3_read 45 rfl rfl) (by decide))
    (zr_n (zr_n zr_0))))))))))))))))
  (zrs_c (zr_s (zq_aload_n C (zda zDX3_read 48 rfl rfl) rfl)
    (zr_s (zq_iload C (zda zDX3_read 49 rfl rfl))
    (zr_n (zr_s (zk_callV (n := 1) C zXX_ok zTs_good hbc hbs (show zget zprog 57 = some mX3_takeThing from rfl) rfl rfl (show vwCl[3]? = some (RX3, TX3, 9) from rfl) zw120 zw117 zw119 zs2 zw4 (by decide +kernel) (zda zDX3_read 51 rfl rfl))
    (zr_n (zr_n (zr_s (zk_goto C (zda zDX3_read 54 rfl rfl) (by decide))
    (zr_n (zr_n (zr_s (zq_aload_n C (zda zDX3_read 57 rfl rfl) rfl)
    (zr_s (zq_iload C (zda zDX3_read 58 rfl rfl))
    (zr_n (zr_s (zk_callV (n := 1) C zXX_ok zTs_good hbc hbs (show zget zprog 55 = some mX3_takeBehindThing from rfl) rfl rfl (show vwCl[3]? = some (RX3, TX3, 9) from rfl) zw199 zw196 zw198 zs6 zw4 (by decide +kernel) (zda zDX3_read 60 rfl rfl))
    (zr_n (zr_n (zr_s (zq_istoreN C (zda zDX3_read 63 rfl rfl) (by decide))
    zr_0))))))))))))))))
  (zrs_c (zr_n (zr_s (zq_iload C (zda zDX3_read 65 rfl rfl))
    (zr_n (zr_s (zqr_if_ne C (zda zDX3_read 67 rfl rfl) (by decide))
    (zr_n (zr_n (zr_s (zq_iload_n C (zda zDX3_read 70 rfl rfl) rfl)
    (zr_s (zk_ret1 (ty := .int) C hbc hbs rfl rfl (Or.inl ⟨(zda zDX3_read 71 rfl rfl), by decide⟩))
    (zr_s (zk_inc (n := .ofNat 1) C (zda zDX3_read 72 rfl rfl) (by decide) (by decide))
    (zr_n (zr_n (zr_s (zk_goto C (zda zDX3_read 75 rfl rfl) (by decide))
    (zr_n (zr_n (zr_s (zq_aload_n C (zda zDX3_read 78 rfl rfl) rfl)
    (zr_s (zq_getN (k := 1) C (zda zDX3_read 79 rfl rfl) (show vwCl[6]? = some (RX6, TX6, 2) from rfl) zinX6 (by decide) (fun U H h => zn1 h))
    zr_0))))))))))))))))
  (zrs_c (zr_n (zr_n (zr_s (zq_bipush (n := .ofNat 40) C (zda zDX3_read 82 rfl rfl) (by decide) (by decide))
    (zr_n (zr_s (zqr_gt C (zda zDX3_read 84 rfl rfl) (by decide))
    (zr_n (zr_n (zr_s (zq_aload_n C (zda zDX3_read 87 rfl rfl) rfl)
    (zr_s (zq_get (k := 8) C (zda zDX3_read 88 rfl rfl) (show vwCl[3]? = some (RX3, TX3, 9) from rfl) zinX3 (by decide) zw224)
    (zr_n (zr_n (zr_s (zqr_if_ne C (zda zDX3_read 91 rfl rfl) (by decide))
    (zr_n (zr_n (zr_s (zq_aload_n C (zda zDX3_read 94 rfl rfl) rfl)
    (zr_s (zq_get (k := 6) C (zda zDX3_read 95 rfl rfl) (show vwCl[3]? = some (RX3, TX3, 9) from rfl) zinX3 (by decide) zw222)
    zr_0))))))))))))))))
  (zrs_c (zr_n (zr_n (zr_s (zqr_if_le C (zda zDX3_read 98 rfl rfl) (by decide))
    (zr_n (zr_n (zr_s (zq_iload_n C (zda zDX3_read 101 rfl rfl) rfl)
    (zr_s (zk_ret1 (ty := .int) C hbc hbs rfl rfl (Or.inl ⟨(zda zDX3_read 102 rfl rfl), by decide⟩))
    (zr_s (zq_aload_n C (zda zDX3_read 103 rfl rfl) rfl)
    (zr_s (zq_iconst (n := .ofNat 1) C (zda zDX3_read 104 rfl rfl) (by decide))
    (zr_s (zk_callV (n := 1) C zXX_ok zTs_good hbc hbs (show zget zprog 54 = some mX3_reckonDownTo from rfl) rfl rfl (show vwCl[3]? = some (RX3, TX3, 9) from rfl) zw211 zw208 zw210 zs9 zw4 (by decide +kernel) (zda zDX3_read 105 rfl rfl))
    (zr_n (zr_n (zr_s (zq_iconst (n := .negSucc 0) C (zda zDX3_read 108 rfl rfl) (by decide))
    (zr_s (zk_ret1 (ty := .int) C hbc hbs rfl rfl (Or.inl ⟨(zda zDX3_read 109 rfl rfl), by decide⟩))
    zr_0))))))))))))))
  zrs_0)))))))
set_option maxRecDepth 100000 in
set_option maxHeartbeats 4000000 in
theorem okX3_readFirst {l : Launch} {D : va_G} {tys : List (ClassId × FieldType)} {o : zO} {z : Nat} (E : zEnv tys) : zCodeOk l D vwCl tys o z (zXX o z) zTs zprog mX3_readFirst := by
  intro p e R s m args below meth c0 Q ws0 hbc hbs C pc sem h
  replace hbc : R.cells = 0 := hbc
  replace hbs : R.slots = 0 := hbs
  replace C : zCx p R s m args meth c0 D vwCl tys z (zXX o z) zTs RX3 cX3_readFirst 2 "readFirst" := C
  refine zRows_get (P := fun pc sem => zOp p l e R s m args below meth c0 Q D vwCl tys o z (zXX o z) zTs zprog ws0 2 cX3_readFirst none pc sem) (c := kX3_readFirst) ?_ h
  unfold kX3_readFirst
  exact (zrs_c (zr_s (zq_aload_n C (zda zDX3_readFirst 0 rfl rfl) rfl)
    (zr_s (zk_callV (n := 0) C zXX_ok zTs_good hbc hbs (show zget zprog 44 = some mX3_begin from rfl) rfl rfl (show vwCl[3]? = some (RX3, TX3, 9) from rfl) zw67 zw64 zw66 zs1 zw4 (by decide +kernel) (zda zDX3_readFirst 1 rfl rfl))
    (zr_n (zr_n (zr_s (zq_iconst (n := .ofNat 0) C (zda zDX3_readFirst 4 rfl rfl) (by decide))
    (zr_s (zq_istoreN_n C (zda zDX3_readFirst 5 rfl rfl) rfl (by decide))
    (zr_s (zq_iload_n C (zda zDX3_readFirst 6 rfl rfl) rfl)
    (zr_s (zq_ldcS (k := 0) C (by decide) (zda zDX3_readFirst 7 rfl rfl) (fun U H h => zxR0 h))
    (zr_n (zr_s (zk_callT (n := 0) C zXX_ok zTs_good (fun U H h => zxT h) hbc hbs (show zget zprog 7 = some mJ0_length_8abf5 from rfl) rfl rfl rfl zw72 zw69 zw70 zw71 zw5 (by decide +kernel) (zda zDX3_readFirst 9 rfl rfl))
    (zr_n (zr_n (zr_s (zqr_ge C (zda zDX3_readFirst 12 rfl rfl) (by decide))
    (zr_n (zr_n (zr_s (zq_aload_n C (zda zDX3_readFirst 15 rfl rfl) rfl)
    zr_0))))))))))))))))
  (zrs_c (zr_s (zq_get (k := 8) C (zda zDX3_readFirst 16 rfl rfl) (show vwCl[3]? = some (RX3, TX3, 9) from rfl) zinX3 (by decide) zw224)
    (zr_n (zr_n (zr_s (zqr_if_eq C (zda zDX3_readFirst 19 rfl rfl) (by decide))
    (zr_n (zr_n (zr_s (zq_aload_n C (zda zDX3_readFirst 22 rfl rfl) rfl)
    (zr_s (zq_ldcS (k := 0) C (by decide) (zda zDX3_readFirst 23 rfl rfl) (fun U H h => zxR0 h))
    (zr_n (zr_s (zq_iload_n C (zda zDX3_readFirst 25 rfl rfl) rfl)
    (zr_s (zk_callT (n := 1) C zXX_ok zTs_good (fun U H h => zxT h) hbc hbs (show zget zprog 0 = some mJ0_charAt_5068e from rfl) rfl rfl rfl zw82 zw79 zw80 zw81 zw5 (by decide +kernel) (zda zDX3_readFirst 26 rfl rfl))
    (zr_n (zr_n (zr_s (zk_callV (n := 1) C zXX_ok zTs_good hbc hbs (show zget zprog 57 = some mX3_takeThing from rfl) rfl rfl (show vwCl[3]? = some (RX3, TX3, 9) from rfl) zw120 zw117 zw119 zs2 zw4 (by decide +kernel) (zda zDX3_readFirst 29 rfl rfl))
    (zr_n (zr_n zr_0))))))))))))))))
  (zrs_c (zr_s (zk_pop C (zda zDX3_readFirst 32 rfl rfl))
    (zr_s (zk_goto C (zda zDX3_readFirst 33 rfl rfl) (by decide))
    (zr_n (zr_n (zr_s (zq_aload_n C (zda zDX3_readFirst 36 rfl rfl) rfl)
    (zr_s (zq_ldcS (k := 0) C (by decide) (zda zDX3_readFirst 37 rfl rfl) (fun U H h => zxR0 h))
    (zr_n (zr_s (zq_iload_n C (zda zDX3_readFirst 39 rfl rfl) rfl)
    (zr_s (zk_callT (n := 1) C zXX_ok zTs_good (fun U H h => zxT h) hbc hbs (show zget zprog 0 = some mJ0_charAt_5068e from rfl) rfl rfl rfl zw82 zw79 zw80 zw81 zw5 (by decide +kernel) (zda zDX3_readFirst 40 rfl rfl))
    (zr_n (zr_n (zr_s (zk_callV (n := 1) C zXX_ok zTs_good hbc hbs (show zget zprog 55 = some mX3_takeBehindThing from rfl) rfl rfl (show vwCl[3]? = some (RX3, TX3, 9) from rfl) zw199 zw196 zw198 zs6 zw4 (by decide +kernel) (zda zDX3_readFirst 43 rfl rfl))
    (zr_n (zr_n (zr_s (zk_pop C (zda zDX3_readFirst 46 rfl rfl))
    (zr_s (zk_inc (n := .ofNat 1) C (zda zDX3_readFirst 47 rfl rfl) (by decide) (by decide))
    zr_0))))))))))))))))
  (zrs_c (zr_n (zr_n (zr_s (zk_goto C (zda zDX3_readFirst 50 rfl rfl) (by decide))
    (zr_n (zr_n (zr_s (zq_aload_n C (zda zDX3_readFirst 53 rfl rfl) rfl)
    (zr_s (zq_iconst (n := .ofNat 1) C (zda zDX3_readFirst 54 rfl rfl) (by decide))
    (zr_s (zk_callV (n := 1) C zXX_ok zTs_good hbc hbs (show zget zprog 54 = some mX3_reckonDownTo from rfl) rfl rfl (show vwCl[3]? = some (RX3, TX3, 9) from rfl) zw211 zw208 zw210 zs9 zw4 (by decide +kernel) (zda zDX3_readFirst 55 rfl rfl))
    (zr_n (zr_n (zr_s (zk_ret0 C hbc hbs rfl (zda zDX3_readFirst 58 rfl rfl))
    zr_0)))))))))))
  zrs_0))))
set_option maxRecDepth 100000 in
set_option maxHeartbeats 4000000 in
theorem okX3_reckon {l : Launch} {D : va_G} {tys : List (ClassId × FieldType)} {o : zO} {z : Nat} (E : zEnv tys) : zCodeOk l D vwCl tys o z (zXX o z) zTs zprog mX3_reckon := by
  intro p e R s m args below meth c0 Q ws0 hbc hbs C pc sem h
  replace hbc : R.cells = 0 := hbc
  replace hbs : R.slots = 0 := hbs
  replace C : zCx p R s m args meth c0 D vwCl tys z (zXX o z) zTs RX3 cX3_reckon 3 "reckon" := C
  refine zRows_get (P := fun pc sem => zOp p l e R s m args below meth c0 Q D vwCl tys o z (zXX o z) zTs zprog ws0 3 cX3_reckon (some .int) pc sem) (c := kX3_reckon) ?_ h
  unfold kX3_reckon
  exact (zrs_c (zr_s (zq_iload_n C (zda zDX3_reckon 0 rfl rfl) rfl)
    (zr_s (zk_lsw C (zda zDX3_reckon 1 rfl rfl) (by decide) (by decide) (fun v => zswL (pc := 1) (ps := [(.ofNat 42, .ofNat 100), (.ofNat 43, .ofNat 92), (.ofNat 45, .ofNat 96), (.ofNat 60, .ofNat 59), (.ofNat 61, .ofNat 81), (.ofNat 62, .ofNat 70)]) (by decide) (by decide) v))
    (zr_n (zr_n (zr_n (zr_n (zr_n (zr_n (zr_n (zr_n (zr_n (zr_n (zr_n (zr_n (zr_n (zr_n zr_0))))))))))))))))
  (zrs_c (zr_n (zr_n (zr_n (zr_n (zr_n (zr_n (zr_n (zr_n (zr_n (zr_n (zr_n (zr_n (zr_n (zr_n (zr_n (zr_n zr_0))))))))))))))))
  (zrs_c (zr_n (zr_n (zr_n (zr_n (zr_n (zr_n (zr_n (zr_n (zr_n (zr_n (zr_n (zr_n (zr_n (zr_n (zr_n (zr_n zr_0))))))))))))))))
  (zrs_c (zr_n (zr_n (zr_n (zr_n (zr_n (zr_n (zr_n (zr_n (zr_n (zr_n (zr_n (zr_n (zr_s (zq_iload_n C (zda zDX3_reckon 60 rfl rfl) rfl)
    (zr_s (zq_iload_n C (zda zDX3_reckon 61 rfl rfl) rfl)
    (zr_s (zqr_ge C (zda zDX3_reckon 62 rfl rfl) (by decide))
    (zr_n zr_0))))))))))))))))
  (zrs_c (zr_n (zr_s (zq_iconst (n := .ofNat 1) C (zda zDX3_reckon 65 rfl rfl) (by decide))
    (zr_s (zk_goto C (zda zDX3_reckon 66 rfl rfl) (by decide))
    (zr_n (zr_n (zr_s (zq_iconst (n := .ofNat 0) C (zda zDX3_reckon 69 rfl rfl) (by decide))
    (zr_s (zk_ret1 (ty := .int) C hbc hbs rfl rfl (Or.inl ⟨(zda zDX3_reckon 70 rfl rfl), by decide⟩))
    (zr_s (zq_iload_n C (zda zDX3_reckon 71 rfl rfl) rfl)
    (zr_s (zq_iload_n C (zda zDX3_reckon 72 rfl rfl) rfl)
    (zr_s (zqr_le C (zda zDX3_reckon 73 rfl rfl) (by decide))
    (zr_n (zr_n (zr_s (zq_iconst (n := .ofNat 1) C (zda zDX3_reckon 76 rfl rfl) (by decide))
    (zr_s (zk_goto C (zda zDX3_reckon 77 rfl rfl) (by decide))
    (zr_n (zr_n zr_0))))))))))))))))
  (zrs_c (zr_s (zq_iconst (n := .ofNat 0) C (zda zDX3_reckon 80 rfl rfl) (by decide))
    (zr_s (zk_ret1 (ty := .int) C hbc hbs rfl rfl (Or.inl ⟨(zda zDX3_reckon 81 rfl rfl), by decide⟩))
    (zr_s (zq_iload_n C (zda zDX3_reckon 82 rfl rfl) rfl)
    (zr_s (zq_iload_n C (zda zDX3_reckon 83 rfl rfl) rfl)
    (zr_s (zqr_ne C (zda zDX3_reckon 84 rfl rfl) (by decide))
    (zr_n (zr_n (zr_s (zq_iconst (n := .ofNat 1) C (zda zDX3_reckon 87 rfl rfl) (by decide))
    (zr_s (zk_goto C (zda zDX3_reckon 88 rfl rfl) (by decide))
    (zr_n (zr_n (zr_s (zq_iconst (n := .ofNat 0) C (zda zDX3_reckon 91 rfl rfl) (by decide))
    (zr_s (zk_ret1 (ty := .int) C hbc hbs rfl rfl (Or.inl ⟨(zda zDX3_reckon 92 rfl rfl), by decide⟩))
    (zr_s (zq_iload_n C (zda zDX3_reckon 93 rfl rfl) rfl)
    (zr_s (zq_iload_n C (zda zDX3_reckon 94 rfl rfl) rfl)
    (zr_s (zk_add C (zda zDX3_reckon 95 rfl rfl))
    zr_0))))))))))))))))
  (zrs_c (zr_s (zk_ret1 (ty := .int) C hbc hbs rfl rfl (Or.inl ⟨(zda zDX3_reckon 96 rfl rfl), by decide⟩))
    (zr_s (zq_iload_n C (zda zDX3_reckon 97 rfl rfl) rfl)
    (zr_s (zq_iload_n C (zda zDX3_reckon 98 rfl rfl) rfl)
    (zr_s (zk_sub C (zda zDX3_reckon 99 rfl rfl))
    (zr_s (zk_ret1 (ty := .int) C hbc hbs rfl rfl (Or.inl ⟨(zda zDX3_reckon 100 rfl rfl), by decide⟩))
    (zr_s (zq_iload_n C (zda zDX3_reckon 101 rfl rfl) rfl)
    (zr_s (zq_iload_n C (zda zDX3_reckon 102 rfl rfl) rfl)
    (zr_s (zq_imul C (zda zDX3_reckon 103 rfl rfl))
    (zr_s (zk_ret1 (ty := .int) C hbc hbs rfl rfl (Or.inl ⟨(zda zDX3_reckon 104 rfl rfl), by decide⟩))
    (zr_s (zq_iload_n C (zda zDX3_reckon 105 rfl rfl) rfl)
    (zr_s (zqr_if_ne C (zda zDX3_reckon 106 rfl rfl) (by decide))
    (zr_n (zr_n (zr_s (zq_iconst (n := .ofNat 0) C (zda zDX3_reckon 109 rfl rfl) (by decide))
    (zr_s (zk_goto C (zda zDX3_reckon 110 rfl rfl) (by decide))
    (zr_n zr_0))))))))))))))))
  (zrs_c (zr_n (zr_s (zq_iload_n C (zda zDX3_reckon 113 rfl rfl) rfl)
    (zr_s (zq_iload_n C (zda zDX3_reckon 114 rfl rfl) rfl)
    (zr_s (zq_idiv C (zda zDX3_reckon 115 rfl rfl))
    (zr_s (zk_ret1 (ty := .int) C hbc hbs rfl rfl (Or.inl ⟨(zda zDX3_reckon 116 rfl rfl), by decide⟩))
    zr_0)))))
  zrs_0))))))))
set_option maxRecDepth 100000 in
set_option maxHeartbeats 4000000 in
theorem okX3_reckonDownTo {l : Launch} {D : va_G} {tys : List (ClassId × FieldType)} {o : zO} {z : Nat} (E : zEnv tys) : zCodeOk l D vwCl tys o z (zXX o z) zTs zprog mX3_reckonDownTo := by
  intro p e R s m args below meth c0 Q ws0 hbc hbs C pc sem h
  replace hbc : R.cells = 0 := hbc
  replace hbs : R.slots = 0 := hbs
  replace C : zCx p R s m args meth c0 D vwCl tys z (zXX o z) zTs RX3 cX3_reckonDownTo 2 "reckonDownTo" := C
  refine zRows_get (P := fun pc sem => zOp p l e R s m args below meth c0 Q D vwCl tys o z (zXX o z) zTs zprog ws0 2 cX3_reckonDownTo none pc sem) (c := kX3_reckonDownTo) ?_ h
  unfold kX3_reckonDownTo
  exact (zrs_c (zr_s (zq_aload_n C (zda zDX3_reckonDownTo 0 rfl rfl) rfl)
    (zr_s (zq_get (k := 5) C (zda zDX3_reckonDownTo 1 rfl rfl) (show vwCl[3]? = some (RX3, TX3, 9) from rfl) zinX3 (by decide) zw221)
    (zr_n (zr_n (zr_s (zqr_if_le C (zda zDX3_reckonDownTo 4 rfl rfl) (by decide))
    (zr_n (zr_n (zr_s (zq_aload_n C (zda zDX3_reckonDownTo 7 rfl rfl) rfl)
    (zr_s (zq_get (k := 1) C (zda zDX3_reckonDownTo 8 rfl rfl) (show vwCl[3]? = some (RX3, TX3, 9) from rfl) zinX3 (by decide) zw217)
    (zr_n (zr_n (zr_s (zq_aload_n C (zda zDX3_reckonDownTo 11 rfl rfl) rfl)
    (zr_s (zq_get (k := 5) C (zda zDX3_reckonDownTo 12 rfl rfl) (show vwCl[3]? = some (RX3, TX3, 9) from rfl) zinX3 (by decide) zw221)
    (zr_n (zr_n (zr_s (zq_iconst (n := .ofNat 1) C (zda zDX3_reckonDownTo 15 rfl rfl) (by decide))
    zr_0))))))))))))))))
  (zrs_c (zr_s (zk_sub C (zda zDX3_reckonDownTo 16 rfl rfl))
    (zr_s (zk_iald C (zda zDX3_reckonDownTo 17 rfl rfl))
    (zr_s (zk_callS C zXX_ok zTs_good hbc hbs (show zget zprog 45 = some mX3_binding from rfl) rfl rfl zw214 zw212 zw213 zw4 (by decide +kernel) (zda zDX3_reckonDownTo 18 rfl rfl))
    (zr_n (zr_n (zr_s (zq_iload_n C (zda zDX3_reckonDownTo 21 rfl rfl) rfl)
    (zr_s (zqr_lt C (zda zDX3_reckonDownTo 22 rfl rfl) (by decide))
    (zr_n (zr_n (zr_s (zq_aload_n C (zda zDX3_reckonDownTo 25 rfl rfl) rfl)
    (zr_s (zk_dup C (zda zDX3_reckonDownTo 26 rfl rfl))
    (zr_s (zq_get (k := 5) C (zda zDX3_reckonDownTo 27 rfl rfl) (show vwCl[3]? = some (RX3, TX3, 9) from rfl) zinX3 (by decide) zw221)
    (zr_n (zr_n (zr_s (zq_iconst (n := .ofNat 1) C (zda zDX3_reckonDownTo 30 rfl rfl) (by decide))
    (zr_s (zk_sub C (zda zDX3_reckonDownTo 31 rfl rfl))
    zr_0))))))))))))))))
  (zrs_c (zr_s (zq_put (k := 5) C (zda zDX3_reckonDownTo 32 rfl rfl) (show vwCl[3]? = some (RX3, TX3, 9) from rfl) zinX3 tyX3 tyX3_ok nmX3 (by decide) zw221 rfl (ty := .int) (by decide +kernel) rfl)
    (zr_n (zr_n (zr_s (zq_aload_n C (zda zDX3_reckonDownTo 35 rfl rfl) rfl)
    (zr_s (zq_aload_n C (zda zDX3_reckonDownTo 36 rfl rfl) rfl)
    (zr_s (zq_get (k := 1) C (zda zDX3_reckonDownTo 37 rfl rfl) (show vwCl[3]? = some (RX3, TX3, 9) from rfl) zinX3 (by decide) zw217)
    (zr_n (zr_n (zr_s (zq_aload_n C (zda zDX3_reckonDownTo 40 rfl rfl) rfl)
    (zr_s (zq_get (k := 5) C (zda zDX3_reckonDownTo 41 rfl rfl) (show vwCl[3]? = some (RX3, TX3, 9) from rfl) zinX3 (by decide) zw221)
    (zr_n (zr_n (zr_s (zk_iald C (zda zDX3_reckonDownTo 44 rfl rfl))
    (zr_s (zq_ineg C (zda zDX3_reckonDownTo 45 rfl rfl))
    (zr_s (zk_callV (n := 1) C zXX_ok zTs_good hbc hbs (show zget zprog 47 = some mX3_emit from rfl) rfl rfl (show vwCl[3]? = some (RX3, TX3, 9) from rfl) zw195 zw192 zw194 zs5 zw4 (by decide +kernel) (zda zDX3_reckonDownTo 46 rfl rfl))
    (zr_n zr_0))))))))))))))))
  (zrs_c (zr_n (zr_s (zk_goto C (zda zDX3_reckonDownTo 49 rfl rfl) (by decide))
    (zr_n (zr_n (zr_s (zk_ret0 C hbc hbs rfl (zda zDX3_reckonDownTo 52 rfl rfl))
    zr_0)))))
  zrs_0))))
set_option maxRecDepth 100000 in
set_option maxHeartbeats 4000000 in
theorem okX3_takeBehindThing {l : Launch} {D : va_G} {tys : List (ClassId × FieldType)} {o : zO} {z : Nat} (E : zEnv tys) : zCodeOk l D vwCl tys o z (zXX o z) zTs zprog mX3_takeBehindThing := by
  intro p e R s m args below meth c0 Q ws0 hbc hbs C pc sem h
  replace hbc : R.cells = 0 := hbc
  replace hbs : R.slots = 0 := hbs
  replace C : zCx p R s m args meth c0 D vwCl tys z (zXX o z) zTs RX3 cX3_takeBehindThing 3 "takeBehindThing" := C
  refine zRows_get (P := fun pc sem => zOp p l e R s m args below meth c0 Q D vwCl tys o z (zXX o z) zTs zprog ws0 3 cX3_takeBehindThing (some .boolean) pc sem) (c := kX3_takeBehindThing) ?_ h
  unfold kX3_takeBehindThing
  exact (zrs_c (zr_s (zq_iload_n C (zda zDX3_takeBehindThing 0 rfl rfl) rfl)
    (zr_s (zk_callSN C zXX_ok zTs_good hbc hbs (show zget zprog 136 = some mX7_isDigit from rfl) rfl rfl zw191 (fun U H h => zn6 h) zw190 zw1 (by decide +kernel) (zda zDX3_takeBehindThing 1 rfl rfl))
    (zr_n (zr_n (zr_s (zqr_if_eq C (zda zDX3_takeBehindThing 4 rfl rfl) (by decide))
    (zr_n (zr_n (zr_s (zq_aload_n C (zda zDX3_takeBehindThing 7 rfl rfl) rfl)
    (zr_s (zq_iload_n C (zda zDX3_takeBehindThing 8 rfl rfl) rfl)
    (zr_s (zq_bipush (n := .ofNat 48) C (zda zDX3_takeBehindThing 9 rfl rfl) (by decide) (by decide))
    (zr_n (zr_s (zk_sub C (zda zDX3_takeBehindThing 11 rfl rfl))
    (zr_s (zk_callV (n := 1) C zXX_ok zTs_good hbc hbs (show zget zprog 56 = some mX3_takeDigitMore from rfl) rfl rfl (show vwCl[3]? = some (RX3, TX3, 9) from rfl) zw203 zw200 zw202 zs7 zw4 (by decide +kernel) (zda zDX3_takeBehindThing 12 rfl rfl))
    (zr_n (zr_n (zr_s (zk_ret1 (ty := .boolean) C hbc hbs rfl rfl (Or.inl ⟨(zda zDX3_takeBehindThing 15 rfl rfl), by decide⟩))
    zr_0))))))))))))))))
  (zrs_c (zr_s (zq_aload_n C (zda zDX3_takeBehindThing 16 rfl rfl) rfl)
    (zr_s (zq_iconst (n := .ofNat 0) C (zda zDX3_takeBehindThing 17 rfl rfl) (by decide))
    (zr_s (zq_put (k := 7) C (zda zDX3_takeBehindThing 18 rfl rfl) (show vwCl[3]? = some (RX3, TX3, 9) from rfl) zinX3 tyX3 tyX3_ok nmX3 (by decide) zw223 rfl (ty := .int) (by decide +kernel) rfl)
    (zr_n (zr_n (zr_s (zq_iload_n C (zda zDX3_takeBehindThing 21 rfl rfl) rfl)
    (zr_s (zq_bipush (n := .ofNat 41) C (zda zDX3_takeBehindThing 22 rfl rfl) (by decide) (by decide))
    (zr_n (zr_s (zqr_ne C (zda zDX3_takeBehindThing 24 rfl rfl) (by decide))
    (zr_n (zr_n (zr_s (zq_aload_n C (zda zDX3_takeBehindThing 27 rfl rfl) rfl)
    (zr_s (zk_callV (n := 0) C zXX_ok zTs_good hbc hbs (show zget zprog 46 = some mX3_closeBracket from rfl) rfl rfl (show vwCl[3]? = some (RX3, TX3, 9) from rfl) zw207 zw204 zw206 zs8 zw4 (by decide +kernel) (zda zDX3_takeBehindThing 28 rfl rfl))
    (zr_n (zr_n (zr_s (zk_ret1 (ty := .boolean) C hbc hbs rfl rfl (Or.inl ⟨(zda zDX3_takeBehindThing 31 rfl rfl), by decide⟩))
    zr_0))))))))))))))))
  (zrs_c (zr_s (zq_iload_n C (zda zDX3_takeBehindThing 32 rfl rfl) rfl)
    (zr_s (zk_callS C zXX_ok zTs_good hbc hbs (show zget zprog 45 = some mX3_binding from rfl) rfl rfl zw214 zw212 zw213 zw4 (by decide +kernel) (zda zDX3_takeBehindThing 33 rfl rfl))
    (zr_n (zr_n (zr_s (zq_istoreN_n C (zda zDX3_takeBehindThing 36 rfl rfl) rfl (by decide))
    (zr_s (zq_iload_n C (zda zDX3_takeBehindThing 37 rfl rfl) rfl)
    (zr_s (zqr_if_eq C (zda zDX3_takeBehindThing 38 rfl rfl) (by decide))
    (zr_n (zr_n (zr_s (zq_iload_n C (zda zDX3_takeBehindThing 41 rfl rfl) rfl)
    (zr_s (zq_iconst (n := .ofNat 1) C (zda zDX3_takeBehindThing 42 rfl rfl) (by decide))
    (zr_s (zqr_ne C (zda zDX3_takeBehindThing 43 rfl rfl) (by decide))
    (zr_n (zr_n (zr_s (zq_aload_n C (zda zDX3_takeBehindThing 46 rfl rfl) rfl)
    (zr_s (zq_get (k := 3) C (zda zDX3_takeBehindThing 47 rfl rfl) (show vwCl[3]? = some (RX3, TX3, 9) from rfl) zinX3 (by decide) zw219)
    zr_0))))))))))))))))
  (zrs_c (zr_n (zr_n (zr_s (zq_aload_n C (zda zDX3_takeBehindThing 50 rfl rfl) rfl)
    (zr_s (zq_get (k := 6) C (zda zDX3_takeBehindThing 51 rfl rfl) (show vwCl[3]? = some (RX3, TX3, 9) from rfl) zinX3 (by decide) zw222)
    (zr_n (zr_n (zr_s (zk_bald C (zda zDX3_takeBehindThing 54 rfl rfl))
    (zr_s (zqr_if_eq C (zda zDX3_takeBehindThing 55 rfl rfl) (by decide))
    (zr_n (zr_n (zr_s (zq_iconst (n := .ofNat 0) C (zda zDX3_takeBehindThing 58 rfl rfl) (by decide))
    (zr_s (zk_ret1 (ty := .boolean) C hbc hbs rfl rfl (Or.inl ⟨(zda zDX3_takeBehindThing 59 rfl rfl), by decide⟩))
    (zr_s (zq_aload_n C (zda zDX3_takeBehindThing 60 rfl rfl) rfl)
    (zr_s (zq_get (k := 3) C (zda zDX3_takeBehindThing 61 rfl rfl) (show vwCl[3]? = some (RX3, TX3, 9) from rfl) zinX3 (by decide) zw219)
    (zr_n (zr_n zr_0))))))))))))))))
  (zrs_c (zr_s (zq_aload_n C (zda zDX3_takeBehindThing 64 rfl rfl) rfl)
    (zr_s (zq_get (k := 6) C (zda zDX3_takeBehindThing 65 rfl rfl) (show vwCl[3]? = some (RX3, TX3, 9) from rfl) zinX3 (by decide) zw222)
    (zr_n (zr_n (zr_s (zq_aload_n C (zda zDX3_takeBehindThing 68 rfl rfl) rfl)
    (zr_s (zq_get (k := 3) C (zda zDX3_takeBehindThing 69 rfl rfl) (show vwCl[3]? = some (RX3, TX3, 9) from rfl) zinX3 (by decide) zw219)
    (zr_n (zr_n (zr_s (zq_aload_n C (zda zDX3_takeBehindThing 72 rfl rfl) rfl)
    (zr_s (zq_get (k := 6) C (zda zDX3_takeBehindThing 73 rfl rfl) (show vwCl[3]? = some (RX3, TX3, 9) from rfl) zinX3 (by decide) zw222)
    (zr_n (zr_n (zr_s (zk_bald C (zda zDX3_takeBehindThing 76 rfl rfl))
    (zr_s (zqr_if_ne C (zda zDX3_takeBehindThing 77 rfl rfl) (by decide))
    (zr_n (zr_n zr_0))))))))))))))))
  (zrs_c (zr_s (zq_iload_n C (zda zDX3_takeBehindThing 80 rfl rfl) rfl)
    (zr_s (zq_iconst (n := .ofNat 1) C (zda zDX3_takeBehindThing 81 rfl rfl) (by decide))
    (zr_s (zqr_ne C (zda zDX3_takeBehindThing 82 rfl rfl) (by decide))
    (zr_n (zr_n (zr_s (zq_iconst (n := .ofNat 1) C (zda zDX3_takeBehindThing 85 rfl rfl) (by decide))
    (zr_s (zk_goto C (zda zDX3_takeBehindThing 86 rfl rfl) (by decide))
    (zr_n (zr_n (zr_s (zq_iconst (n := .ofNat 0) C (zda zDX3_takeBehindThing 89 rfl rfl) (by decide))
    (zr_s (zk_bast C (zda zDX3_takeBehindThing 90 rfl rfl))
    (zr_s (zq_aload_n C (zda zDX3_takeBehindThing 91 rfl rfl) rfl)
    (zr_s (zq_iload_n C (zda zDX3_takeBehindThing 92 rfl rfl) rfl)
    (zr_s (zk_callV (n := 1) C zXX_ok zTs_good hbc hbs (show zget zprog 54 = some mX3_reckonDownTo from rfl) rfl rfl (show vwCl[3]? = some (RX3, TX3, 9) from rfl) zw211 zw208 zw210 zs9 zw4 (by decide +kernel) (zda zDX3_takeBehindThing 93 rfl rfl))
    (zr_n (zr_n zr_0))))))))))))))))
  (zrs_c (zr_s (zq_aload_n C (zda zDX3_takeBehindThing 96 rfl rfl) rfl)
    (zr_s (zq_iload_n C (zda zDX3_takeBehindThing 97 rfl rfl) rfl)
    (zr_s (zk_callV (n := 1) C zXX_ok zTs_good hbc hbs (show zget zprog 43 = some mX3_await from rfl) rfl rfl (show vwCl[3]? = some (RX3, TX3, 9) from rfl) zw124 zw121 zw123 zs3 zw4 (by decide +kernel) (zda zDX3_takeBehindThing 98 rfl rfl))
    (zr_n (zr_n (zr_s (zq_aload_n C (zda zDX3_takeBehindThing 101 rfl rfl) rfl)
    (zr_s (zq_iconst (n := .ofNat 1) C (zda zDX3_takeBehindThing 102 rfl rfl) (by decide))
    (zr_s (zq_put (k := 8) C (zda zDX3_takeBehindThing 103 rfl rfl) (show vwCl[3]? = some (RX3, TX3, 9) from rfl) zinX3 tyX3 tyX3_ok nmX3 (by decide) zw224 rfl (ty := .boolean) (by decide +kernel) rfl)
    (zr_n (zr_n (zr_s (zq_iconst (n := .ofNat 1) C (zda zDX3_takeBehindThing 106 rfl rfl) (by decide))
    (zr_s (zk_ret1 (ty := .boolean) C hbc hbs rfl rfl (Or.inl ⟨(zda zDX3_takeBehindThing 107 rfl rfl), by decide⟩))
    zr_0))))))))))))
  zrs_0)))))))
set_option maxRecDepth 100000 in
set_option maxHeartbeats 4000000 in
theorem okX3_takeDigitMore {l : Launch} {D : va_G} {tys : List (ClassId × FieldType)} {o : zO} {z : Nat} (E : zEnv tys) : zCodeOk l D vwCl tys o z (zXX o z) zTs zprog mX3_takeDigitMore := by
  intro p e R s m args below meth c0 Q ws0 hbc hbs C pc sem h
  replace hbc : R.cells = 0 := hbc
  replace hbs : R.slots = 0 := hbs
  replace C : zCx p R s m args meth c0 D vwCl tys z (zXX o z) zTs RX3 cX3_takeDigitMore 2 "takeDigitMore" := C
  refine zRows_get (P := fun pc sem => zOp p l e R s m args below meth c0 Q D vwCl tys o z (zXX o z) zTs zprog ws0 2 cX3_takeDigitMore (some .boolean) pc sem) (c := kX3_takeDigitMore) ?_ h
  unfold kX3_takeDigitMore
  exact (zrs_c (zr_s (zq_aload_n C (zda zDX3_takeDigitMore 0 rfl rfl) rfl)
    (zr_s (zq_get (k := 7) C (zda zDX3_takeDigitMore 1 rfl rfl) (show vwCl[3]? = some (RX3, TX3, 9) from rfl) zinX3 (by decide) zw223)
    (zr_n (zr_n (zr_s (zq_iconst (n := .ofNat 1) C (zda zDX3_takeDigitMore 4 rfl rfl) (by decide))
    (zr_s (zqr_lt C (zda zDX3_takeDigitMore 5 rfl rfl) (by decide))
    (zr_n (zr_n (zr_s (zq_aload_n C (zda zDX3_takeDigitMore 8 rfl rfl) rfl)
    (zr_s (zq_get (k := 7) C (zda zDX3_takeDigitMore 9 rfl rfl) (show vwCl[3]? = some (RX3, TX3, 9) from rfl) zinX3 (by decide) zw223)
    (zr_n (zr_n (zr_s (zq_iconst (n := .ofNat 3) C (zda zDX3_takeDigitMore 12 rfl rfl) (by decide))
    (zr_s (zqr_ge C (zda zDX3_takeDigitMore 13 rfl rfl) (by decide))
    (zr_n (zr_n zr_0))))))))))))))))
  (zrs_c (zr_s (zq_aload_n C (zda zDX3_takeDigitMore 16 rfl rfl) rfl)
    (zr_s (zq_get (k := 4) C (zda zDX3_takeDigitMore 17 rfl rfl) (show vwCl[3]? = some (RX3, TX3, 9) from rfl) zinX3 (by decide) zw220)
    (zr_n (zr_n (zr_s (zq_iconst (n := .ofNat 1) C (zda zDX3_takeDigitMore 20 rfl rfl) (by decide))
    (zr_s (zqr_ge C (zda zDX3_takeDigitMore 21 rfl rfl) (by decide))
    (zr_n (zr_n (zr_s (zq_iconst (n := .ofNat 0) C (zda zDX3_takeDigitMore 24 rfl rfl) (by decide))
    (zr_s (zk_ret1 (ty := .boolean) C hbc hbs rfl rfl (Or.inl ⟨(zda zDX3_takeDigitMore 25 rfl rfl), by decide⟩))
    (zr_s (zq_aload_n C (zda zDX3_takeDigitMore 26 rfl rfl) rfl)
    (zr_s (zk_dup C (zda zDX3_takeDigitMore 27 rfl rfl))
    (zr_s (zq_get (k := 7) C (zda zDX3_takeDigitMore 28 rfl rfl) (show vwCl[3]? = some (RX3, TX3, 9) from rfl) zinX3 (by decide) zw223)
    (zr_n (zr_n (zr_s (zq_iconst (n := .ofNat 1) C (zda zDX3_takeDigitMore 31 rfl rfl) (by decide))
    zr_0))))))))))))))))
  (zrs_c (zr_s (zk_add C (zda zDX3_takeDigitMore 32 rfl rfl))
    (zr_s (zq_put (k := 7) C (zda zDX3_takeDigitMore 33 rfl rfl) (show vwCl[3]? = some (RX3, TX3, 9) from rfl) zinX3 tyX3 tyX3_ok nmX3 (by decide) zw223 rfl (ty := .int) (by decide +kernel) rfl)
    (zr_n (zr_n (zr_s (zq_aload_n C (zda zDX3_takeDigitMore 36 rfl rfl) rfl)
    (zr_s (zq_get (k := 0) C (zda zDX3_takeDigitMore 37 rfl rfl) (show vwCl[3]? = some (RX3, TX3, 9) from rfl) zinX3 (by decide) zw216)
    (zr_n (zr_n (zr_s (zq_aload_n C (zda zDX3_takeDigitMore 40 rfl rfl) rfl)
    (zr_s (zq_get (k := 4) C (zda zDX3_takeDigitMore 41 rfl rfl) (show vwCl[3]? = some (RX3, TX3, 9) from rfl) zinX3 (by decide) zw220)
    (zr_n (zr_n (zr_s (zq_iconst (n := .ofNat 1) C (zda zDX3_takeDigitMore 44 rfl rfl) (by decide))
    (zr_s (zk_sub C (zda zDX3_takeDigitMore 45 rfl rfl))
    (zr_s (zq_aload_n C (zda zDX3_takeDigitMore 46 rfl rfl) rfl)
    (zr_s (zq_get (k := 0) C (zda zDX3_takeDigitMore 47 rfl rfl) (show vwCl[3]? = some (RX3, TX3, 9) from rfl) zinX3 (by decide) zw216)
    zr_0))))))))))))))))
  (zrs_c (zr_n (zr_n (zr_s (zq_aload_n C (zda zDX3_takeDigitMore 50 rfl rfl) rfl)
    (zr_s (zq_get (k := 4) C (zda zDX3_takeDigitMore 51 rfl rfl) (show vwCl[3]? = some (RX3, TX3, 9) from rfl) zinX3 (by decide) zw220)
    (zr_n (zr_n (zr_s (zq_iconst (n := .ofNat 1) C (zda zDX3_takeDigitMore 54 rfl rfl) (by decide))
    (zr_s (zk_sub C (zda zDX3_takeDigitMore 55 rfl rfl))
    (zr_s (zk_iald C (zda zDX3_takeDigitMore 56 rfl rfl))
    (zr_s (zq_bipush (n := .ofNat 10) C (zda zDX3_takeDigitMore 57 rfl rfl) (by decide) (by decide))
    (zr_n (zr_s (zq_imul C (zda zDX3_takeDigitMore 59 rfl rfl))
    (zr_s (zq_iload_n C (zda zDX3_takeDigitMore 60 rfl rfl) rfl)
    (zr_s (zk_add C (zda zDX3_takeDigitMore 61 rfl rfl))
    (zr_s (zk_iast C (zda zDX3_takeDigitMore 62 rfl rfl))
    (zr_s (zq_iconst (n := .ofNat 1) C (zda zDX3_takeDigitMore 63 rfl rfl) (by decide))
    zr_0))))))))))))))))
  (zrs_c (zr_s (zk_ret1 (ty := .boolean) C hbc hbs rfl rfl (Or.inl ⟨(zda zDX3_takeDigitMore 64 rfl rfl), by decide⟩))
    zr_0)
  zrs_0)))))
