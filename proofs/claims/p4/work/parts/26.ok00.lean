set_option maxRecDepth 100000 in
set_option maxHeartbeats 4000000 in
theorem okJ0_charAt_5068e {l : Launch} {D : va_G} {tys : List (ClassId × FieldType)} {o : zO} {z : Nat} (E : zEnv tys) : zCodeOk l D vwCl tys o z (zXX o z) zTs zprog mJ0_charAt_5068e := by
  intro p e R s m args below meth c0 Q ws0 hbc hbs C pc sem h
  replace hbc : R.cells = 0 := hbc
  replace hbs : R.slots = 0 := hbs
  replace C : zCx p R s m args meth c0 D vwCl tys z (zXX o z) zTs RJ0 cJ0_charAt_5068e 2 "charAt" := C
  refine zRows_get (P := fun pc sem => zOp p l e R s m args below meth c0 Q D vwCl tys o z (zXX o z) zTs zprog ws0 2 cJ0_charAt_5068e (some .char) pc sem) (c := kJ0_charAt_5068e) ?_ h
  unfold kJ0_charAt_5068e
  exact (zrs_c (zr_s (zq_aload_n C dJ0_charAt_5068e_0 rfl)
    (zr_s (zk_callT (n := 0) C zXX_ok zTs_good (fun U H h => zxT h) hbc hbs (show zget zprog 6 = some mJ0_isLatin1_aae02 from rfl) rfl rfl rfl zw86 zw83 zw84 zw85 zw5 (by decide +kernel) dJ0_charAt_5068e_1)
    (zr_n (zr_n (zr_s (zqr_if_eq C dJ0_charAt_5068e_4 (by decide))
    (zr_n (zr_n (zr_s (zq_aload_n C dJ0_charAt_5068e_7 rfl)
    (zr_s (zk_getSv C (fun U H h => zxT h) dJ0_charAt_5068e_8 zw1803)
    (zr_n (zr_n (zr_s (zq_iload_n C dJ0_charAt_5068e_11 rfl)
    (zr_s (zk_callS C zXX_ok zTs_good hbc hbs (show zget zprog 9 = some mJ1_charAt_3b067 from rfl) rfl rfl zw89 zw87 zw88 zw6 (by decide +kernel) dJ0_charAt_5068e_12)
    (zr_n (zr_n (zr_s (zk_retC C hbc hbs rfl dJ0_charAt_5068e_15)
    zr_0))))))))))))))))
  (zrs_c (zr_s (zq_aload_n C dJ0_charAt_5068e_16 rfl)
    (zr_s (zk_getSv C (fun U H h => zxT h) dJ0_charAt_5068e_17 zw1803)
    (zr_n (zr_n (zr_s (zq_iload_n C dJ0_charAt_5068e_20 rfl)
    (zr_n (zr_n (zr_n (zr_s (zk_retC C hbc hbs rfl dJ0_charAt_5068e_24)
    zr_0)))))))))
  zrs_0))
set_option maxRecDepth 100000 in
set_option maxHeartbeats 4000000 in
theorem okJ0_checkBoundsBeginEnd_23922 {l : Launch} {D : va_G} {tys : List (ClassId × FieldType)} {o : zO} {z : Nat} (E : zEnv tys) : zCodeOk l D vwCl tys o z (zXX o z) zTs zprog mJ0_checkBoundsBeginEnd_23922 := by
  intro p e R s m args below meth c0 Q ws0 hbc hbs C pc sem h
  replace hbc : R.cells = 0 := hbc
  replace hbs : R.slots = 0 := hbs
  replace C : zCx p R s m args meth c0 D vwCl tys z (zXX o z) zTs RJ0 cJ0_checkBoundsBeginEnd_23922 3 "checkBoundsBeginEnd" := C
  refine zRows_get (P := fun pc sem => zOp p l e R s m args below meth c0 Q D vwCl tys o z (zXX o z) zTs zprog ws0 3 cJ0_checkBoundsBeginEnd_23922 none pc sem) (c := kJ0_checkBoundsBeginEnd_23922) ?_ h
  unfold kJ0_checkBoundsBeginEnd_23922
  exact (zrs_c (zr_s (zq_iload_n C dJ0_checkBoundsBeginEnd_23922_0 rfl)
    (zr_s (zq_iload_n C dJ0_checkBoundsBeginEnd_23922_1 rfl)
    (zr_s (zq_iload_n C dJ0_checkBoundsBeginEnd_23922_2 rfl)
    (zr_s (zq_getsQ (k := 100) C (by decide) dJ0_checkBoundsBeginEnd_23922_3 zw93 (fun U H h => zxF h))
    (zr_n (zr_n (zr_s (zk_callS C zXX_ok zTs_good hbc hbs (show zget zprog 12 = some mJ3_checkFromToIndex_8c36e from rfl) rfl rfl zw171 zw169 zw170 zw7 (by decide +kernel) dJ0_checkBoundsBeginEnd_23922_6)
    (zr_n (zr_n (zr_s (zk_pop C dJ0_checkBoundsBeginEnd_23922_9)
    (zr_s (zk_ret0 C hbc hbs rfl dJ0_checkBoundsBeginEnd_23922_10)
    zr_0)))))))))))
  zrs_0)
set_option maxRecDepth 100000 in
set_option maxHeartbeats 4000000 in
theorem okJ0_checkIndex_df160 {l : Launch} {D : va_G} {tys : List (ClassId × FieldType)} {o : zO} {z : Nat} (E : zEnv tys) : zCodeOk l D vwCl tys o z (zXX o z) zTs zprog mJ0_checkIndex_df160 := by
  intro p e R s m args below meth c0 Q ws0 hbc hbs C pc sem h
  replace hbc : R.cells = 0 := hbc
  replace hbs : R.slots = 0 := hbs
  replace C : zCx p R s m args meth c0 D vwCl tys z (zXX o z) zTs RJ0 cJ0_checkIndex_df160 2 "checkIndex" := C
  refine zRows_get (P := fun pc sem => zOp p l e R s m args below meth c0 Q D vwCl tys o z (zXX o z) zTs zprog ws0 2 cJ0_checkIndex_df160 none pc sem) (c := kJ0_checkIndex_df160) ?_ h
  unfold kJ0_checkIndex_df160
  exact (zrs_c (zr_s (zq_iload_n C dJ0_checkIndex_df160_0 rfl)
    (zr_s (zq_iload_n C dJ0_checkIndex_df160_1 rfl)
    (zr_s (zq_getsQ (k := 100) C (by decide) dJ0_checkIndex_df160_2 zw93 (fun U H h => zxF h))
    (zr_n (zr_n (zr_s (zk_callS C zXX_ok zTs_good hbc hbs (show zget zprog 13 = some mJ3_checkIndex_8e157 from rfl) rfl rfl zw97 zw95 zw96 zw7 (by decide +kernel) dJ0_checkIndex_df160_5)
    (zr_n (zr_n (zr_s (zk_pop C dJ0_checkIndex_df160_8)
    (zr_s (zk_ret0 C hbc hbs rfl dJ0_checkIndex_df160_9)
    zr_0))))))))))
  zrs_0)
set_option maxRecDepth 100000 in
set_option maxHeartbeats 4000000 in
theorem okJ0_coder_7d493 {l : Launch} {D : va_G} {tys : List (ClassId × FieldType)} {o : zO} {z : Nat} (E : zEnv tys) : zCodeOk l D vwCl tys o z (zXX o z) zTs zprog mJ0_coder_7d493 := by
  intro p e R s m args below meth c0 Q ws0 hbc hbs C pc sem h
  replace hbc : R.cells = 0 := hbc
  replace hbs : R.slots = 0 := hbs
  replace C : zCx p R s m args meth c0 D vwCl tys z (zXX o z) zTs RJ0 cJ0_coder_7d493 1 "coder" := C
  refine zRows_get (P := fun pc sem => zOp p l e R s m args below meth c0 Q D vwCl tys o z (zXX o z) zTs zprog ws0 1 cJ0_coder_7d493 (some .byte) pc sem) (c := kJ0_coder_7d493) ?_ h
  unfold kJ0_coder_7d493
  exact (zrs_c (zr_s (zq_getsI (v := .ofNat 1) C dJ0_coder_7d493_0 zw77 (fun U H h => zxC h) (by decide))
    (zr_n (zr_n (zr_s (zqr_if_eq C dJ0_coder_7d493_3 (by decide))
    (zr_n (zr_n (zr_s (zq_aload_n C dJ0_coder_7d493_6 rfl)
    (zr_s (zk_getSc C (fun U H h => zxT h) dJ0_coder_7d493_7 zw1804)
    (zr_n (zr_n (zr_s (zk_goto C dJ0_coder_7d493_10 (by decide))
    (zr_n (zr_n (zr_s (zq_iconst (n := .ofNat 1) C dJ0_coder_7d493_13 (by decide))
    (zr_s (zk_retB C hbc hbs rfl dJ0_coder_7d493_14)
    zr_0)))))))))))))))
  zrs_0)
set_option maxRecDepth 100000 in
set_option maxHeartbeats 4000000 in
theorem okJ0_indexOf_0f7a4 {l : Launch} {D : va_G} {tys : List (ClassId × FieldType)} {o : zO} {z : Nat} (E : zEnv tys) : zCodeOk l D vwCl tys o z (zXX o z) zTs zprog mJ0_indexOf_0f7a4 := by
  intro p e R s m args below meth c0 Q ws0 hbc hbs C pc sem h
  replace hbc : R.cells = 0 := hbc
  replace hbs : R.slots = 0 := hbs
  replace C : zCx p R s m args meth c0 D vwCl tys z (zXX o z) zTs RJ0 cJ0_indexOf_0f7a4 2 "indexOf" := C
  refine zRows_get (P := fun pc sem => zOp p l e R s m args below meth c0 Q D vwCl tys o z (zXX o z) zTs zprog ws0 2 cJ0_indexOf_0f7a4 (some .int) pc sem) (c := kJ0_indexOf_0f7a4) ?_ h
  unfold kJ0_indexOf_0f7a4
  exact (zrs_c (zr_s (zq_aload_n C dJ0_indexOf_0f7a4_0 rfl)
    (zr_s (zq_iload_n C dJ0_indexOf_0f7a4_1 rfl)
    (zr_s (zq_iconst (n := .ofNat 0) C dJ0_indexOf_0f7a4_2 (by decide))
    (zr_s (zk_callT (n := 2) C zXX_ok zTs_good (fun U H h => zxT h) hbc hbs (show zget zprog 5 = some mJ0_indexOf_7cf53 from rfl) rfl rfl rfl zw137 zw134 zw135 zw136 zw5 (by decide +kernel) dJ0_indexOf_0f7a4_3)
    (zr_n (zr_n (zr_s (zk_ret1 (ty := .int) C hbc hbs rfl rfl (Or.inl ⟨dJ0_indexOf_0f7a4_6, by decide⟩))
    zr_0)))))))
  zrs_0)
set_option maxRecDepth 100000 in
set_option maxHeartbeats 4000000 in
theorem okJ0_indexOf_7cf53 {l : Launch} {D : va_G} {tys : List (ClassId × FieldType)} {o : zO} {z : Nat} (E : zEnv tys) : zCodeOk l D vwCl tys o z (zXX o z) zTs zprog mJ0_indexOf_7cf53 := by
  intro p e R s m args below meth c0 Q ws0 hbc hbs C pc sem h
  replace hbc : R.cells = 0 := hbc
  replace hbs : R.slots = 0 := hbs
  replace C : zCx p R s m args meth c0 D vwCl tys z (zXX o z) zTs RJ0 cJ0_indexOf_7cf53 3 "indexOf" := C
  refine zRows_get (P := fun pc sem => zOp p l e R s m args below meth c0 Q D vwCl tys o z (zXX o z) zTs zprog ws0 3 cJ0_indexOf_7cf53 (some .int) pc sem) (c := kJ0_indexOf_7cf53) ?_ h
  unfold kJ0_indexOf_7cf53
  exact (zrs_c (zr_s (zq_aload_n C dJ0_indexOf_7cf53_0 rfl)
    (zr_s (zk_callT (n := 0) C zXX_ok zTs_good (fun U H h => zxT h) hbc hbs (show zget zprog 6 = some mJ0_isLatin1_aae02 from rfl) rfl rfl rfl zw86 zw83 zw84 zw85 zw5 (by decide +kernel) dJ0_indexOf_7cf53_1)
    (zr_n (zr_n (zr_s (zqr_if_eq C dJ0_indexOf_7cf53_4 (by decide))
    (zr_n (zr_n (zr_s (zq_aload_n C dJ0_indexOf_7cf53_7 rfl)
    (zr_s (zk_getSv C (fun U H h => zxT h) dJ0_indexOf_7cf53_8 zw1803)
    (zr_n (zr_n (zr_s (zq_iload_n C dJ0_indexOf_7cf53_11 rfl)
    (zr_s (zq_iload_n C dJ0_indexOf_7cf53_12 rfl)
    (zr_s (zq_aload_n C dJ0_indexOf_7cf53_13 rfl)
    (zr_s (zk_callT (n := 0) C zXX_ok zTs_good (fun U H h => zxT h) hbc hbs (show zget zprog 7 = some mJ0_length_8abf5 from rfl) rfl rfl rfl zw72 zw138 zw70 zw71 zw5 (by decide +kernel) dJ0_indexOf_7cf53_14)
    (zr_n zr_0))))))))))))))))
  (zrs_c (zr_n (zr_s (zk_callS C zXX_ok zTs_good hbc hbs (show zget zprog 11 = some mJ1_indexOf_4cfef from rfl) rfl rfl zw141 zw139 zw140 zw6 (by decide +kernel) dJ0_indexOf_7cf53_17)
    (zr_n (zr_n (zr_s (zk_goto C dJ0_indexOf_7cf53_20 (by decide))
    (zr_n (zr_n (zr_s (zq_aload_n C dJ0_indexOf_7cf53_23 rfl)
    (zr_s (zk_getSv C (fun U H h => zxT h) dJ0_indexOf_7cf53_24 zw1803)
    (zr_n (zr_n (zr_s (zq_iload_n C dJ0_indexOf_7cf53_27 rfl)
    (zr_s (zq_iload_n C dJ0_indexOf_7cf53_28 rfl)
    (zr_s (zq_aload_n C dJ0_indexOf_7cf53_29 rfl)
    (zr_s (zk_callT (n := 0) C zXX_ok zTs_good (fun U H h => zxT h) hbc hbs (show zget zprog 7 = some mJ0_length_8abf5 from rfl) rfl rfl rfl zw72 zw138 zw70 zw71 zw5 (by decide +kernel) dJ0_indexOf_7cf53_30)
    (zr_n zr_0))))))))))))))))
  (zrs_c (zr_n (zr_n (zr_n (zr_n (zr_s (zk_ret1 (ty := .int) C hbc hbs rfl rfl (Or.inl ⟨dJ0_indexOf_7cf53_36, by decide⟩))
    zr_0)))))
  zrs_0)))
set_option maxRecDepth 100000 in
set_option maxHeartbeats 4000000 in
theorem okJ0_isLatin1_aae02 {l : Launch} {D : va_G} {tys : List (ClassId × FieldType)} {o : zO} {z : Nat} (E : zEnv tys) : zCodeOk l D vwCl tys o z (zXX o z) zTs zprog mJ0_isLatin1_aae02 := by
  intro p e R s m args below meth c0 Q ws0 hbc hbs C pc sem h
  replace hbc : R.cells = 0 := hbc
  replace hbs : R.slots = 0 := hbs
  replace C : zCx p R s m args meth c0 D vwCl tys z (zXX o z) zTs RJ0 cJ0_isLatin1_aae02 1 "isLatin1" := C
  refine zRows_get (P := fun pc sem => zOp p l e R s m args below meth c0 Q D vwCl tys o z (zXX o z) zTs zprog ws0 1 cJ0_isLatin1_aae02 (some .boolean) pc sem) (c := kJ0_isLatin1_aae02) ?_ h
  unfold kJ0_isLatin1_aae02
  exact (zrs_c (zr_s (zq_getsI (v := .ofNat 1) C dJ0_isLatin1_aae02_0 zw77 (fun U H h => zxC h) (by decide))
    (zr_n (zr_n (zr_s (zqr_if_eq C dJ0_isLatin1_aae02_3 (by decide))
    (zr_n (zr_n (zr_s (zq_aload_n C dJ0_isLatin1_aae02_6 rfl)
    (zr_s (zk_getSc C (fun U H h => zxT h) dJ0_isLatin1_aae02_7 zw1804)
    (zr_n (zr_n (zr_s (zqr_if_ne C dJ0_isLatin1_aae02_10 (by decide))
    (zr_n (zr_n (zr_s (zq_iconst (n := .ofNat 1) C dJ0_isLatin1_aae02_13 (by decide))
    (zr_s (zk_goto C dJ0_isLatin1_aae02_14 (by decide))
    (zr_n zr_0))))))))))))))))
  (zrs_c (zr_n (zr_s (zq_iconst (n := .ofNat 0) C dJ0_isLatin1_aae02_17 (by decide))
    (zr_s (zk_ret1 (ty := .boolean) C hbc hbs rfl rfl (Or.inl ⟨dJ0_isLatin1_aae02_18, by decide⟩))
    zr_0)))
  zrs_0))
set_option maxRecDepth 100000 in
set_option maxHeartbeats 4000000 in
theorem okJ0_length_8abf5 {l : Launch} {D : va_G} {tys : List (ClassId × FieldType)} {o : zO} {z : Nat} (E : zEnv tys) : zCodeOk l D vwCl tys o z (zXX o z) zTs zprog mJ0_length_8abf5 := by
  intro p e R s m args below meth c0 Q ws0 hbc hbs C pc sem h
  replace hbc : R.cells = 0 := hbc
  replace hbs : R.slots = 0 := hbs
  replace C : zCx p R s m args meth c0 D vwCl tys z (zXX o z) zTs RJ0 cJ0_length_8abf5 1 "length" := C
  refine zRows_get (P := fun pc sem => zOp p l e R s m args below meth c0 Q D vwCl tys o z (zXX o z) zTs zprog ws0 1 cJ0_length_8abf5 (some .int) pc sem) (c := kJ0_length_8abf5) ?_ h
  unfold kJ0_length_8abf5
  exact (zrs_c (zr_s (zq_aload_n C dJ0_length_8abf5_0 rfl)
    (zr_s (zk_getSv C (fun U H h => zxT h) dJ0_length_8abf5_1 zw1803)
    (zr_n (zr_n (zr_s (zk_lenS C (fun U H h => zxT h) dJ0_length_8abf5_4)
    (zr_s (zq_aload_n C dJ0_length_8abf5_5 rfl)
    (zr_s (zk_callT (n := 0) C zXX_ok zTs_good (fun U H h => zxT h) hbc hbs (show zget zprog 3 = some mJ0_coder_7d493 from rfl) rfl rfl rfl zw76 zw73 zw74 zw75 zw5 (by decide +kernel) dJ0_length_8abf5_6)
    (zr_n (zr_n (zr_s (zq_ishr C dJ0_length_8abf5_9)
    (zr_s (zk_ret1 (ty := .int) C hbc hbs rfl rfl (Or.inl ⟨dJ0_length_8abf5_10, by decide⟩))
    zr_0)))))))))))
  zrs_0)
set_option maxRecDepth 100000 in
set_option maxHeartbeats 4000000 in
theorem okJ1_canEncode_9a6ad {l : Launch} {D : va_G} {tys : List (ClassId × FieldType)} {o : zO} {z : Nat} (E : zEnv tys) : zCodeOk l D vwCl tys o z (zXX o z) zTs zprog mJ1_canEncode_9a6ad := by
  intro p e R s m args below meth c0 Q ws0 hbc hbs C pc sem h
  replace hbc : R.cells = 0 := hbc
  replace hbs : R.slots = 0 := hbs
  replace C : zCx p R s m args meth c0 D vwCl tys z (zXX o z) zTs RJ1 cJ1_canEncode_9a6ad 1 "canEncode" := C
  refine zRows_get (P := fun pc sem => zOp p l e R s m args below meth c0 Q D vwCl tys o z (zXX o z) zTs zprog ws0 1 cJ1_canEncode_9a6ad (some .boolean) pc sem) (c := kJ1_canEncode_9a6ad) ?_ h
  unfold kJ1_canEncode_9a6ad
  exact (zrs_c (zr_s (zq_iload_n C dJ1_canEncode_9a6ad_0 rfl)
    (zr_s (zqr_if_lt C dJ1_canEncode_9a6ad_1 (by decide))
    (zr_n (zr_n (zr_s (zq_iload_n C dJ1_canEncode_9a6ad_4 rfl)
    (zr_s (zq_sipush (n := .ofNat 255) C dJ1_canEncode_9a6ad_5 (by decide) (by decide))
    (zr_n (zr_n (zr_s (zqr_gt C dJ1_canEncode_9a6ad_8 (by decide))
    (zr_n (zr_n (zr_s (zq_iconst (n := .ofNat 1) C dJ1_canEncode_9a6ad_11 (by decide))
    (zr_s (zk_goto C dJ1_canEncode_9a6ad_12 (by decide))
    (zr_n (zr_n (zr_s (zq_iconst (n := .ofNat 0) C dJ1_canEncode_9a6ad_15 (by decide))
    zr_0))))))))))))))))
  (zrs_c (zr_s (zk_ret1 (ty := .boolean) C hbc hbs rfl rfl (Or.inl ⟨dJ1_canEncode_9a6ad_16, by decide⟩))
    zr_0)
  zrs_0))
set_option maxRecDepth 100000 in
set_option maxHeartbeats 4000000 in
theorem okJ1_charAt_3b067 {l : Launch} {D : va_G} {tys : List (ClassId × FieldType)} {o : zO} {z : Nat} (E : zEnv tys) : zCodeOk l D vwCl tys o z (zXX o z) zTs zprog mJ1_charAt_3b067 := by
  intro p e R s m args below meth c0 Q ws0 hbc hbs C pc sem h
  replace hbc : R.cells = 0 := hbc
  replace hbs : R.slots = 0 := hbs
  replace C : zCx p R s m args meth c0 D vwCl tys z (zXX o z) zTs RJ1 cJ1_charAt_3b067 2 "charAt" := C
  refine zRows_get (P := fun pc sem => zOp p l e R s m args below meth c0 Q D vwCl tys o z (zXX o z) zTs zprog ws0 2 cJ1_charAt_3b067 (some .char) pc sem) (c := kJ1_charAt_3b067) ?_ h
  unfold kJ1_charAt_3b067
  exact (zrs_c (zr_s (zq_iload_n C dJ1_charAt_3b067_0 rfl)
    (zr_s (zq_aload_n C dJ1_charAt_3b067_1 rfl)
    (zr_s (zk_lenS C (fun U H h => zxT h) dJ1_charAt_3b067_2)
    (zr_s (zk_callS C zXX_ok zTs_good hbc hbs (show zget zprog 2 = some mJ0_checkIndex_df160 from rfl) rfl rfl zw92 zw90 zw91 zw5 (by decide +kernel) dJ1_charAt_3b067_3)
    (zr_n (zr_n (zr_s (zq_aload_n C dJ1_charAt_3b067_6 rfl)
    (zr_s (zq_iload_n C dJ1_charAt_3b067_7 rfl)
    (zr_s (zk_baldS C (fun U H h => zxT h) dJ1_charAt_3b067_8)
    (zr_s (zq_sipush (n := .ofNat 255) C dJ1_charAt_3b067_9 (by decide) (by decide))
    (zr_n (zr_n (zr_s (zqb_and C dJ1_charAt_3b067_12)
    (zr_s (zq_i2c C dJ1_charAt_3b067_13)
    (zr_s (zk_retC C hbc hbs rfl dJ1_charAt_3b067_14)
    zr_0)))))))))))))))
  zrs_0)
set_option maxRecDepth 100000 in
set_option maxHeartbeats 4000000 in
theorem okJ1_indexOfChar_4cfef {l : Launch} {D : va_G} {tys : List (ClassId × FieldType)} {o : zO} {z : Nat} (E : zEnv tys) : zCodeOk l D vwCl tys o z (zXX o z) zTs zprog mJ1_indexOfChar_4cfef := by
  intro p e R s m args below meth c0 Q ws0 hbc hbs C pc sem h
  replace hbc : R.cells = 0 := hbc
  replace hbs : R.slots = 0 := hbs
  replace C : zCx p R s m args meth c0 D vwCl tys z (zXX o z) zTs RJ1 cJ1_indexOfChar_4cfef 6 "indexOfChar" := C
  refine zRows_get (P := fun pc sem => zOp p l e R s m args below meth c0 Q D vwCl tys o z (zXX o z) zTs zprog ws0 6 cJ1_indexOfChar_4cfef (some .int) pc sem) (c := kJ1_indexOfChar_4cfef) ?_ h
  unfold kJ1_indexOfChar_4cfef
  exact (zrs_c (zr_s (zq_iload_n C dJ1_indexOfChar_4cfef_0 rfl)
    (zr_s (zq_i2b C dJ1_indexOfChar_4cfef_1)
    (zr_s (zq_istoreN C dJ1_indexOfChar_4cfef_2 (by decide))
    (zr_n (zr_s (zq_iload_n C dJ1_indexOfChar_4cfef_4 rfl)
    (zr_s (zq_istoreN C dJ1_indexOfChar_4cfef_5 (by decide))
    (zr_n (zr_s (zq_iload C dJ1_indexOfChar_4cfef_7)
    (zr_n (zr_s (zq_iload_n C dJ1_indexOfChar_4cfef_9 rfl)
    (zr_s (zqr_ge C dJ1_indexOfChar_4cfef_10 (by decide))
    (zr_n (zr_n (zr_s (zq_aload_n C dJ1_indexOfChar_4cfef_13 rfl)
    (zr_s (zq_iload C dJ1_indexOfChar_4cfef_14)
    (zr_n zr_0))))))))))))))))
  (zrs_c (zr_s (zk_baldS C (fun U H h => zxT h) dJ1_indexOfChar_4cfef_16)
    (zr_s (zq_iload C dJ1_indexOfChar_4cfef_17)
    (zr_n (zr_s (zqr_ne C dJ1_indexOfChar_4cfef_19 (by decide))
    (zr_n (zr_n (zr_s (zq_iload C dJ1_indexOfChar_4cfef_22)
    (zr_n (zr_s (zk_ret1 (ty := .int) C hbc hbs rfl rfl (Or.inl ⟨dJ1_indexOfChar_4cfef_24, by decide⟩))
    (zr_s (zk_inc (n := .ofNat 1) C dJ1_indexOfChar_4cfef_25 (by decide) (by decide))
    (zr_n (zr_n (zr_s (zk_goto C dJ1_indexOfChar_4cfef_28 (by decide))
    (zr_n (zr_n (zr_s (zq_iconst (n := .negSucc 0) C dJ1_indexOfChar_4cfef_31 (by decide))
    zr_0))))))))))))))))
  (zrs_c (zr_s (zk_ret1 (ty := .int) C hbc hbs rfl rfl (Or.inl ⟨dJ1_indexOfChar_4cfef_32, by decide⟩))
    zr_0)
  zrs_0)))
set_option maxRecDepth 100000 in
set_option maxHeartbeats 4000000 in
theorem okJ1_indexOf_4cfef {l : Launch} {D : va_G} {tys : List (ClassId × FieldType)} {o : zO} {z : Nat} (E : zEnv tys) : zCodeOk l D vwCl tys o z (zXX o z) zTs zprog mJ1_indexOf_4cfef := by
  intro p e R s m args below meth c0 Q ws0 hbc hbs C pc sem h
  replace hbc : R.cells = 0 := hbc
  replace hbs : R.slots = 0 := hbs
  replace C : zCx p R s m args meth c0 D vwCl tys z (zXX o z) zTs RJ1 cJ1_indexOf_4cfef 4 "indexOf" := C
  refine zRows_get (P := fun pc sem => zOp p l e R s m args below meth c0 Q D vwCl tys o z (zXX o z) zTs zprog ws0 4 cJ1_indexOf_4cfef (some .int) pc sem) (c := kJ1_indexOf_4cfef) ?_ h
  unfold kJ1_indexOf_4cfef
  exact (zrs_c (zr_s (zq_iload_n C dJ1_indexOf_4cfef_0 rfl)
    (zr_s (zk_callS C zXX_ok zTs_good hbc hbs (show zget zprog 8 = some mJ1_canEncode_9a6ad from rfl) rfl rfl zw144 zw142 zw143 zw6 (by decide +kernel) dJ1_indexOf_4cfef_1)
    (zr_n (zr_n (zr_s (zqr_if_ne C dJ1_indexOf_4cfef_4 (by decide))
    (zr_n (zr_n (zr_s (zq_iconst (n := .negSucc 0) C dJ1_indexOf_4cfef_7 (by decide))
    (zr_s (zk_ret1 (ty := .int) C hbc hbs rfl rfl (Or.inl ⟨dJ1_indexOf_4cfef_8, by decide⟩))
    (zr_s (zq_iload_n C dJ1_indexOf_4cfef_9 rfl)
    (zr_s (zq_iconst (n := .ofNat 0) C dJ1_indexOf_4cfef_10 (by decide))
    (zr_s (zq_max C hbc hbs dJ1_indexOf_4cfef_11 zw145 zw146 zw9 zw147)
    (zr_n (zr_n (zr_s (zq_istoreN_n C dJ1_indexOf_4cfef_14 rfl (by decide))
    (zr_s (zq_iload_n C dJ1_indexOf_4cfef_15 rfl)
    zr_0))))))))))))))))
  (zrs_c (zr_s (zq_aload_n C dJ1_indexOf_4cfef_16 rfl)
    (zr_s (zk_lenS C (fun U H h => zxT h) dJ1_indexOf_4cfef_17)
    (zr_s (zq_min C hbc hbs dJ1_indexOf_4cfef_18 zw148 zw149 zw9 zw150)
    (zr_n (zr_n (zr_s (zq_istoreN_n C dJ1_indexOf_4cfef_21 rfl (by decide))
    (zr_s (zq_iload_n C dJ1_indexOf_4cfef_22 rfl)
    (zr_s (zq_iload_n C dJ1_indexOf_4cfef_23 rfl)
    (zr_s (zqr_lt C dJ1_indexOf_4cfef_24 (by decide))
    (zr_n (zr_n (zr_s (zq_iconst (n := .negSucc 0) C dJ1_indexOf_4cfef_27 (by decide))
    (zr_s (zk_ret1 (ty := .int) C hbc hbs rfl rfl (Or.inl ⟨dJ1_indexOf_4cfef_28, by decide⟩))
    (zr_s (zq_aload_n C dJ1_indexOf_4cfef_29 rfl)
    (zr_s (zq_iload_n C dJ1_indexOf_4cfef_30 rfl)
    (zr_s (zq_iload_n C dJ1_indexOf_4cfef_31 rfl)
    zr_0))))))))))))))))
  (zrs_c (zr_s (zq_iload_n C dJ1_indexOf_4cfef_32 rfl)
    (zr_s (zk_callS C zXX_ok zTs_good hbc hbs (show zget zprog 10 = some mJ1_indexOfChar_4cfef from rfl) rfl rfl zw153 zw151 zw152 zw6 (by decide +kernel) dJ1_indexOf_4cfef_33)
    (zr_n (zr_n (zr_s (zk_ret1 (ty := .int) C hbc hbs rfl rfl (Or.inl ⟨dJ1_indexOf_4cfef_36, by decide⟩))
    zr_0)))))
  zrs_0)))
set_option maxRecDepth 100000 in
set_option maxHeartbeats 4000000 in
theorem okJ3_checkFromToIndex_8c36e {l : Launch} {D : va_G} {tys : List (ClassId × FieldType)} {o : zO} {z : Nat} (E : zEnv tys) : zCodeOk l D vwCl tys o z (zXX o z) zTs zprog mJ3_checkFromToIndex_8c36e := by
  intro p e R s m args below meth c0 Q ws0 hbc hbs C pc sem h
  replace hbc : R.cells = 0 := hbc
  replace hbs : R.slots = 0 := hbs
  replace C : zCx p R s m args meth c0 D vwCl tys z (zXX o z) zTs RJ3 cJ3_checkFromToIndex_8c36e 4 "checkFromToIndex" := C
  refine zRows_get (P := fun pc sem => zOp p l e R s m args below meth c0 Q D vwCl tys o z (zXX o z) zTs zprog ws0 4 cJ3_checkFromToIndex_8c36e (some .int) pc sem) (c := kJ3_checkFromToIndex_8c36e) ?_ h
  unfold kJ3_checkFromToIndex_8c36e
  exact (zrs_c (zr_s (zq_iload_n C dJ3_checkFromToIndex_8c36e_0 rfl)
    (zr_s (zqr_if_lt C dJ3_checkFromToIndex_8c36e_1 (by decide))
    (zr_n (zr_n (zr_s (zq_iload_n C dJ3_checkFromToIndex_8c36e_4 rfl)
    (zr_s (zq_iload_n C dJ3_checkFromToIndex_8c36e_5 rfl)
    (zr_s (zqr_gt C dJ3_checkFromToIndex_8c36e_6 (by decide))
    (zr_n (zr_n (zr_s (zq_iload_n C dJ3_checkFromToIndex_8c36e_9 rfl)
    (zr_s (zq_iload_n C dJ3_checkFromToIndex_8c36e_10 rfl)
    (zr_s (zqr_le C dJ3_checkFromToIndex_8c36e_11 (by decide))
    (zr_n (zr_n (zr_s (zq_aload_n C dJ3_checkFromToIndex_8c36e_14 rfl)
    (zr_s (zq_iload_n C dJ3_checkFromToIndex_8c36e_15 rfl)
    zr_0))))))))))))))))
  (zrs_c (zr_s (zq_iload_n C dJ3_checkFromToIndex_8c36e_16 rfl)
    (zr_s (zq_iload_n C dJ3_checkFromToIndex_8c36e_17 rfl)
    (zr_n (zr_n (zr_n (zr_n (zr_s (zq_iload_n C dJ3_checkFromToIndex_8c36e_22 rfl)
    (zr_s (zk_ret1 (ty := .int) C hbc hbs rfl rfl (Or.inl ⟨dJ3_checkFromToIndex_8c36e_23, by decide⟩))
    zr_0))))))))
  zrs_0))
set_option maxRecDepth 100000 in
set_option maxHeartbeats 4000000 in
theorem okJ3_checkIndex_8e157 {l : Launch} {D : va_G} {tys : List (ClassId × FieldType)} {o : zO} {z : Nat} (E : zEnv tys) : zCodeOk l D vwCl tys o z (zXX o z) zTs zprog mJ3_checkIndex_8e157 := by
  intro p e R s m args below meth c0 Q ws0 hbc hbs C pc sem h
  replace hbc : R.cells = 0 := hbc
  replace hbs : R.slots = 0 := hbs
  replace C : zCx p R s m args meth c0 D vwCl tys z (zXX o z) zTs RJ3 cJ3_checkIndex_8e157 3 "checkIndex" := C
  refine zRows_get (P := fun pc sem => zOp p l e R s m args below meth c0 Q D vwCl tys o z (zXX o z) zTs zprog ws0 3 cJ3_checkIndex_8e157 (some .int) pc sem) (c := kJ3_checkIndex_8e157) ?_ h
  unfold kJ3_checkIndex_8e157
  exact (zrs_c (zr_s (zq_iload_n C dJ3_checkIndex_8e157_0 rfl)
    (zr_s (zqr_if_lt C dJ3_checkIndex_8e157_1 (by decide))
    (zr_n (zr_n (zr_s (zq_iload_n C dJ3_checkIndex_8e157_4 rfl)
    (zr_s (zq_iload_n C dJ3_checkIndex_8e157_5 rfl)
    (zr_s (zqr_lt C dJ3_checkIndex_8e157_6 (by decide))
    (zr_n (zr_n (zr_s (zq_aload_n C dJ3_checkIndex_8e157_9 rfl)
    (zr_s (zq_iload_n C dJ3_checkIndex_8e157_10 rfl)
    (zr_s (zq_iload_n C dJ3_checkIndex_8e157_11 rfl)
    (zr_n (zr_n (zr_n (zr_n zr_0))))))))))))))))
  (zrs_c (zr_s (zq_iload_n C dJ3_checkIndex_8e157_16 rfl)
    (zr_s (zk_ret1 (ty := .int) C hbc hbs rfl rfl (Or.inl ⟨dJ3_checkIndex_8e157_17, by decide⟩))
    zr_0))
  zrs_0))
set_option maxRecDepth 100000 in
set_option maxHeartbeats 4000000 in
theorem okJ6_bitCount_0f7a4 {l : Launch} {D : va_G} {tys : List (ClassId × FieldType)} {o : zO} {z : Nat} (E : zEnv tys) : zCodeOk l D vwCl tys o z (zXX o z) zTs zprog mJ6_bitCount_0f7a4 := by
  intro p e R s m args below meth c0 Q ws0 hbc hbs C pc sem h
  replace hbc : R.cells = 0 := hbc
  replace hbs : R.slots = 0 := hbs
  replace C : zCx p R s m args meth c0 D vwCl tys z (zXX o z) zTs RJ6 cJ6_bitCount_0f7a4 1 "bitCount" := C
  refine zRows_get (P := fun pc sem => zOp p l e R s m args below meth c0 Q D vwCl tys o z (zXX o z) zTs zprog ws0 1 cJ6_bitCount_0f7a4 (some .int) pc sem) (c := kJ6_bitCount_0f7a4) ?_ h
  unfold kJ6_bitCount_0f7a4
  exact (zrs_c (zr_s (zq_iload_n C dJ6_bitCount_0f7a4_0 rfl)
    (zr_s (zq_iload_n C dJ6_bitCount_0f7a4_1 rfl)
    (zr_s (zq_iconst (n := .ofNat 1) C dJ6_bitCount_0f7a4_2 (by decide))
    (zr_s (zq_iushr C dJ6_bitCount_0f7a4_3)
    (zr_s (zq_ldc_w (n := .ofNat 1431655765) C dJ6_bitCount_0f7a4_4 zw565 (by decide +kernel))
    (zr_n (zr_n (zr_s (zqb_and C dJ6_bitCount_0f7a4_7)
    (zr_s (zk_sub C dJ6_bitCount_0f7a4_8)
    (zr_s (zq_istoreN_n C dJ6_bitCount_0f7a4_9 rfl (by decide))
    (zr_s (zq_iload_n C dJ6_bitCount_0f7a4_10 rfl)
    (zr_s (zq_ldc_w (n := .ofNat 858993459) C dJ6_bitCount_0f7a4_11 zw566 (by decide +kernel))
    (zr_n (zr_n (zr_s (zqb_and C dJ6_bitCount_0f7a4_14)
    (zr_s (zq_iload_n C dJ6_bitCount_0f7a4_15 rfl)
    zr_0))))))))))))))))
  (zrs_c (zr_s (zq_iconst (n := .ofNat 2) C dJ6_bitCount_0f7a4_16 (by decide))
    (zr_s (zq_iushr C dJ6_bitCount_0f7a4_17)
    (zr_s (zq_ldc_w (n := .ofNat 858993459) C dJ6_bitCount_0f7a4_18 zw566 (by decide +kernel))
    (zr_n (zr_n (zr_s (zqb_and C dJ6_bitCount_0f7a4_21)
    (zr_s (zk_add C dJ6_bitCount_0f7a4_22)
    (zr_s (zq_istoreN_n C dJ6_bitCount_0f7a4_23 rfl (by decide))
    (zr_s (zq_iload_n C dJ6_bitCount_0f7a4_24 rfl)
    (zr_s (zq_iload_n C dJ6_bitCount_0f7a4_25 rfl)
    (zr_s (zq_iconst (n := .ofNat 4) C dJ6_bitCount_0f7a4_26 (by decide))
    (zr_s (zq_iushr C dJ6_bitCount_0f7a4_27)
    (zr_s (zk_add C dJ6_bitCount_0f7a4_28)
    (zr_s (zq_ldc_w (n := .ofNat 252645135) C dJ6_bitCount_0f7a4_29 zw567 (by decide +kernel))
    (zr_n (zr_n zr_0))))))))))))))))
  (zrs_c (zr_s (zqb_and C dJ6_bitCount_0f7a4_32)
    (zr_s (zq_istoreN_n C dJ6_bitCount_0f7a4_33 rfl (by decide))
    (zr_s (zq_iload_n C dJ6_bitCount_0f7a4_34 rfl)
    (zr_s (zq_iload_n C dJ6_bitCount_0f7a4_35 rfl)
    (zr_s (zq_bipush (n := .ofNat 8) C dJ6_bitCount_0f7a4_36 (by decide) (by decide))
    (zr_n (zr_s (zq_iushr C dJ6_bitCount_0f7a4_38)
    (zr_s (zk_add C dJ6_bitCount_0f7a4_39)
    (zr_s (zq_istoreN_n C dJ6_bitCount_0f7a4_40 rfl (by decide))
    (zr_s (zq_iload_n C dJ6_bitCount_0f7a4_41 rfl)
    (zr_s (zq_iload_n C dJ6_bitCount_0f7a4_42 rfl)
    (zr_s (zq_bipush (n := .ofNat 16) C dJ6_bitCount_0f7a4_43 (by decide) (by decide))
    (zr_n (zr_s (zq_iushr C dJ6_bitCount_0f7a4_45)
    (zr_s (zk_add C dJ6_bitCount_0f7a4_46)
    (zr_s (zq_istoreN_n C dJ6_bitCount_0f7a4_47 rfl (by decide))
    zr_0))))))))))))))))
  (zrs_c (zr_s (zq_iload_n C dJ6_bitCount_0f7a4_48 rfl)
    (zr_s (zq_bipush (n := .ofNat 63) C dJ6_bitCount_0f7a4_49 (by decide) (by decide))
    (zr_n (zr_s (zqb_and C dJ6_bitCount_0f7a4_51)
    (zr_s (zk_ret1 (ty := .int) C hbc hbs rfl rfl (Or.inl ⟨dJ6_bitCount_0f7a4_52, by decide⟩))
    zr_0)))))
  zrs_0))))
set_option maxRecDepth 100000 in
set_option maxHeartbeats 4000000 in
theorem okJ6_numberOfTrailingZeros_0f7a4 {l : Launch} {D : va_G} {tys : List (ClassId × FieldType)} {o : zO} {z : Nat} (E : zEnv tys) : zCodeOk l D vwCl tys o z (zXX o z) zTs zprog mJ6_numberOfTrailingZeros_0f7a4 := by
  intro p e R s m args below meth c0 Q ws0 hbc hbs C pc sem h
  replace hbc : R.cells = 0 := hbc
  replace hbs : R.slots = 0 := hbs
  replace C : zCx p R s m args meth c0 D vwCl tys z (zXX o z) zTs RJ6 cJ6_numberOfTrailingZeros_0f7a4 2 "numberOfTrailingZeros" := C
  refine zRows_get (P := fun pc sem => zOp p l e R s m args below meth c0 Q D vwCl tys o z (zXX o z) zTs zprog ws0 2 cJ6_numberOfTrailingZeros_0f7a4 (some .int) pc sem) (c := kJ6_numberOfTrailingZeros_0f7a4) ?_ h
  unfold kJ6_numberOfTrailingZeros_0f7a4
  exact (zrs_c (zr_s (zq_iload_n C dJ6_numberOfTrailingZeros_0f7a4_0 rfl)
    (zr_s (zq_iconst (n := .negSucc 0) C dJ6_numberOfTrailingZeros_0f7a4_1 (by decide))
    (zr_s (zqb_xor C dJ6_numberOfTrailingZeros_0f7a4_2)
    (zr_s (zq_iload_n C dJ6_numberOfTrailingZeros_0f7a4_3 rfl)
    (zr_s (zq_iconst (n := .ofNat 1) C dJ6_numberOfTrailingZeros_0f7a4_4 (by decide))
    (zr_s (zk_sub C dJ6_numberOfTrailingZeros_0f7a4_5)
    (zr_s (zqb_and C dJ6_numberOfTrailingZeros_0f7a4_6)
    (zr_s (zq_istoreN_n C dJ6_numberOfTrailingZeros_0f7a4_7 rfl (by decide))
    (zr_s (zq_iload_n C dJ6_numberOfTrailingZeros_0f7a4_8 rfl)
    (zr_s (zqr_if_gt C dJ6_numberOfTrailingZeros_0f7a4_9 (by decide))
    (zr_n (zr_n (zr_s (zq_iload_n C dJ6_numberOfTrailingZeros_0f7a4_12 rfl)
    (zr_s (zq_bipush (n := .ofNat 32) C dJ6_numberOfTrailingZeros_0f7a4_13 (by decide) (by decide))
    (zr_n (zr_s (zqb_and C dJ6_numberOfTrailingZeros_0f7a4_15)
    zr_0))))))))))))))))
  (zrs_c (zr_s (zk_ret1 (ty := .int) C hbc hbs rfl rfl (Or.inl ⟨dJ6_numberOfTrailingZeros_0f7a4_16, by decide⟩))
    (zr_s (zq_iconst (n := .ofNat 1) C dJ6_numberOfTrailingZeros_0f7a4_17 (by decide))
    (zr_s (zq_istoreN_n C dJ6_numberOfTrailingZeros_0f7a4_18 rfl (by decide))
    (zr_s (zq_iload_n C dJ6_numberOfTrailingZeros_0f7a4_19 rfl)
    (zr_s (zq_ldc_w (n := .ofNat 65536) C dJ6_numberOfTrailingZeros_0f7a4_20 zw1536 (by decide +kernel))
    (zr_n (zr_n (zr_s (zqr_le C dJ6_numberOfTrailingZeros_0f7a4_23 (by decide))
    (zr_n (zr_n (zr_s (zk_inc (n := .ofNat 16) C dJ6_numberOfTrailingZeros_0f7a4_26 (by decide) (by decide))
    (zr_n (zr_n (zr_s (zq_iload_n C dJ6_numberOfTrailingZeros_0f7a4_29 rfl)
    (zr_s (zq_bipush (n := .ofNat 16) C dJ6_numberOfTrailingZeros_0f7a4_30 (by decide) (by decide))
    (zr_n zr_0))))))))))))))))
  (zrs_c (zr_s (zq_iushr C dJ6_numberOfTrailingZeros_0f7a4_32)
    (zr_s (zq_istoreN_n C dJ6_numberOfTrailingZeros_0f7a4_33 rfl (by decide))
    (zr_s (zq_iload_n C dJ6_numberOfTrailingZeros_0f7a4_34 rfl)
    (zr_s (zq_sipush (n := .ofNat 256) C dJ6_numberOfTrailingZeros_0f7a4_35 (by decide) (by decide))
    (zr_n (zr_n (zr_s (zqr_le C dJ6_numberOfTrailingZeros_0f7a4_38 (by decide))
    (zr_n (zr_n (zr_s (zk_inc (n := .ofNat 8) C dJ6_numberOfTrailingZeros_0f7a4_41 (by decide) (by decide))
    (zr_n (zr_n (zr_s (zq_iload_n C dJ6_numberOfTrailingZeros_0f7a4_44 rfl)
    (zr_s (zq_bipush (n := .ofNat 8) C dJ6_numberOfTrailingZeros_0f7a4_45 (by decide) (by decide))
    (zr_n (zr_s (zq_iushr C dJ6_numberOfTrailingZeros_0f7a4_47)
    zr_0))))))))))))))))
  (zrs_c (zr_s (zq_istoreN_n C dJ6_numberOfTrailingZeros_0f7a4_48 rfl (by decide))
    (zr_s (zq_iload_n C dJ6_numberOfTrailingZeros_0f7a4_49 rfl)
    (zr_s (zq_bipush (n := .ofNat 16) C dJ6_numberOfTrailingZeros_0f7a4_50 (by decide) (by decide))
    (zr_n (zr_s (zqr_le C dJ6_numberOfTrailingZeros_0f7a4_52 (by decide))
    (zr_n (zr_n (zr_s (zk_inc (n := .ofNat 4) C dJ6_numberOfTrailingZeros_0f7a4_55 (by decide) (by decide))
    (zr_n (zr_n (zr_s (zq_iload_n C dJ6_numberOfTrailingZeros_0f7a4_58 rfl)
    (zr_s (zq_iconst (n := .ofNat 4) C dJ6_numberOfTrailingZeros_0f7a4_59 (by decide))
    (zr_s (zq_iushr C dJ6_numberOfTrailingZeros_0f7a4_60)
    (zr_s (zq_istoreN_n C dJ6_numberOfTrailingZeros_0f7a4_61 rfl (by decide))
    (zr_s (zq_iload_n C dJ6_numberOfTrailingZeros_0f7a4_62 rfl)
    (zr_s (zq_iconst (n := .ofNat 4) C dJ6_numberOfTrailingZeros_0f7a4_63 (by decide))
    zr_0))))))))))))))))
  (zrs_c (zr_s (zqr_le C dJ6_numberOfTrailingZeros_0f7a4_64 (by decide))
    (zr_n (zr_n (zr_s (zk_inc (n := .ofNat 2) C dJ6_numberOfTrailingZeros_0f7a4_67 (by decide) (by decide))
    (zr_n (zr_n (zr_s (zq_iload_n C dJ6_numberOfTrailingZeros_0f7a4_70 rfl)
    (zr_s (zq_iconst (n := .ofNat 2) C dJ6_numberOfTrailingZeros_0f7a4_71 (by decide))
    (zr_s (zq_iushr C dJ6_numberOfTrailingZeros_0f7a4_72)
    (zr_s (zq_istoreN_n C dJ6_numberOfTrailingZeros_0f7a4_73 rfl (by decide))
    (zr_s (zq_iload_n C dJ6_numberOfTrailingZeros_0f7a4_74 rfl)
    (zr_s (zq_iload_n C dJ6_numberOfTrailingZeros_0f7a4_75 rfl)
    (zr_s (zq_iconst (n := .ofNat 1) C dJ6_numberOfTrailingZeros_0f7a4_76 (by decide))
    (zr_s (zq_iushr C dJ6_numberOfTrailingZeros_0f7a4_77)
    (zr_s (zk_add C dJ6_numberOfTrailingZeros_0f7a4_78)
    (zr_s (zk_ret1 (ty := .int) C hbc hbs rfl rfl (Or.inl ⟨dJ6_numberOfTrailingZeros_0f7a4_79, by decide⟩))
    zr_0))))))))))))))))
  zrs_0)))))
set_option maxRecDepth 100000 in
set_option maxHeartbeats 4000000 in
theorem okJ7_fill_53178 {l : Launch} {D : va_G} {tys : List (ClassId × FieldType)} {o : zO} {z : Nat} (E : zEnv tys) : zCodeOk l D vwCl tys o z (zXX o z) zTs zprog mJ7_fill_53178 := by
  intro p e R s m args below meth c0 Q ws0 hbc hbs C pc sem h
  replace hbc : R.cells = 0 := hbc
  replace hbs : R.slots = 0 := hbs
  replace C : zCx p R s m args meth c0 D vwCl tys z (zXX o z) zTs RJ7 cJ7_fill_53178 4 "fill" := C
  refine zRows_get (P := fun pc sem => zOp p l e R s m args below meth c0 Q D vwCl tys o z (zXX o z) zTs zprog ws0 4 cJ7_fill_53178 none pc sem) (c := kJ7_fill_53178) ?_ h
  unfold kJ7_fill_53178
  exact (zrs_c (zr_s (zq_iconst (n := .ofNat 0) C dJ7_fill_53178_0 (by decide))
    (zr_s (zq_istoreN_n C dJ7_fill_53178_1 rfl (by decide))
    (zr_s (zq_aload_n C dJ7_fill_53178_2 rfl)
    (zr_s (zk_len C dJ7_fill_53178_3)
    (zr_s (zq_istoreN_n C dJ7_fill_53178_4 rfl (by decide))
    (zr_s (zq_iload_n C dJ7_fill_53178_5 rfl)
    (zr_s (zq_iload_n C dJ7_fill_53178_6 rfl)
    (zr_s (zqr_ge C dJ7_fill_53178_7 (by decide))
    (zr_n (zr_n (zr_s (zq_aload_n C dJ7_fill_53178_10 rfl)
    (zr_s (zq_iload_n C dJ7_fill_53178_11 rfl)
    (zr_s (zq_iload_n C dJ7_fill_53178_12 rfl)
    (zr_s (zk_iast C dJ7_fill_53178_13)
    (zr_s (zk_inc (n := .ofNat 1) C dJ7_fill_53178_14 (by decide) (by decide))
    (zr_n zr_0))))))))))))))))
  (zrs_c (zr_n (zr_s (zk_goto C dJ7_fill_53178_17 (by decide))
    (zr_n (zr_n (zr_s (zk_ret0 C hbc hbs rfl dJ7_fill_53178_20)
    zr_0)))))
  zrs_0))
set_option maxRecDepth 100000 in
set_option maxHeartbeats 4000000 in
theorem okJ7_fill_d0a16 {l : Launch} {D : va_G} {tys : List (ClassId × FieldType)} {o : zO} {z : Nat} (E : zEnv tys) : zCodeOk l D vwCl tys o z (zXX o z) zTs zprog mJ7_fill_d0a16 := by
  intro p e R s m args below meth c0 Q ws0 hbc hbs C pc sem h
  replace hbc : R.cells = 0 := hbc
  replace hbs : R.slots = 0 := hbs
  replace C : zCx p R s m args meth c0 D vwCl tys z (zXX o z) zTs RJ7 cJ7_fill_d0a16 5 "fill" := C
  refine zRows_get (P := fun pc sem => zOp p l e R s m args below meth c0 Q D vwCl tys o z (zXX o z) zTs zprog ws0 5 cJ7_fill_d0a16 none pc sem) (c := kJ7_fill_d0a16) ?_ h
  unfold kJ7_fill_d0a16
  exact (zrs_c (zr_s (zq_iconst (n := .ofNat 0) C dJ7_fill_d0a16_0 (by decide))
    (zr_s (zq_istoreN_n C dJ7_fill_d0a16_1 rfl (by decide))
    (zr_s (zq_aload_n C dJ7_fill_d0a16_2 rfl)
    (zr_s (zk_len C dJ7_fill_d0a16_3)
    (zr_s (zq_istoreN C dJ7_fill_d0a16_4 (by decide))
    (zr_n (zr_s (zq_iload_n C dJ7_fill_d0a16_6 rfl)
    (zr_s (zq_iload C dJ7_fill_d0a16_7)
    (zr_n (zr_s (zqr_ge C dJ7_fill_d0a16_9 (by decide))
    (zr_n (zr_n (zr_s (zq_aload_n C dJ7_fill_d0a16_12 rfl)
    (zr_s (zq_iload_n C dJ7_fill_d0a16_13 rfl)
    (zr_s (zq_lload_n C dJ7_fill_d0a16_14 rfl)
    (zr_s (zk_last C dJ7_fill_d0a16_15)
    zr_0))))))))))))))))
  (zrs_c (zr_s (zk_inc (n := .ofNat 1) C dJ7_fill_d0a16_16 (by decide) (by decide))
    (zr_n (zr_n (zr_s (zk_goto C dJ7_fill_d0a16_19 (by decide))
    (zr_n (zr_n (zr_s (zk_ret0 C hbc hbs rfl dJ7_fill_d0a16_22)
    zr_0)))))))
  zrs_0))
set_option maxRecDepth 100000 in
set_option maxHeartbeats 4000000 in
theorem okX0_areTwo {l : Launch} {D : va_G} {tys : List (ClassId × FieldType)} {o : zO} {z : Nat} (E : zEnv tys) : zCodeOk l D vwCl tys o z (zXX o z) zTs zprog mX0_areTwo := by
  intro p e R s m args below meth c0 Q ws0 hbc hbs C pc sem h
  replace hbc : R.cells = 0 := hbc
  replace hbs : R.slots = 0 := hbs
  replace C : zCx p R s m args meth c0 D vwCl tys z (zXX o z) zTs RX0 cX0_areTwo 3 "areTwo" := C
  refine zRows_get (P := fun pc sem => zOp p l e R s m args below meth c0 Q D vwCl tys o z (zXX o z) zTs zprog ws0 3 cX0_areTwo (some .boolean) pc sem) (c := kX0_areTwo) ?_ h
  unfold kX0_areTwo
  exact (zrs_c (zr_s (zq_aload_n C dX0_areTwo_0 rfl)
    (zr_s (zq_iload_n C dX0_areTwo_1 rfl)
    (zr_s (zk_callV (n := 1) C zXX_ok zTs_good hbc hbs (show zget zprog 21 = some mX0_has from rfl) rfl rfl (show vwCl[0]? = some (RX0, TX0, 12) from rfl) zw550 zw636 zw549 zs23 zw3 (by decide +kernel) dX0_areTwo_2)
    (zr_n (zr_n (zr_s (zqr_if_eq C dX0_areTwo_5 (by decide))
    (zr_n (zr_n (zr_s (zq_aload_n C dX0_areTwo_8 rfl)
    (zr_s (zq_iload_n C dX0_areTwo_9 rfl)
    (zr_s (zk_callV (n := 1) C zXX_ok zTs_good hbc hbs (show zget zprog 21 = some mX0_has from rfl) rfl rfl (show vwCl[0]? = some (RX0, TX0, 12) from rfl) zw550 zw636 zw549 zs23 zw3 (by decide +kernel) dX0_areTwo_10)
    (zr_n (zr_n (zr_s (zqr_if_eq C dX0_areTwo_13 (by decide))
    (zr_n (zr_n zr_0))))))))))))))))
  (zrs_c (zr_s (zq_iload_n C dX0_areTwo_16 rfl)
    (zr_s (zq_iload_n C dX0_areTwo_17 rfl)
    (zr_s (zqr_eq C dX0_areTwo_18 (by decide))
    (zr_n (zr_n (zr_s (zq_iconst (n := .ofNat 1) C dX0_areTwo_21 (by decide))
    (zr_s (zk_goto C dX0_areTwo_22 (by decide))
    (zr_n (zr_n (zr_s (zq_iconst (n := .ofNat 0) C dX0_areTwo_25 (by decide))
    (zr_s (zk_ret1 (ty := .boolean) C hbc hbs rfl rfl (Or.inl ⟨dX0_areTwo_26, by decide⟩))
    zr_0)))))))))))
  zrs_0))
set_option maxRecDepth 100000 in
set_option maxHeartbeats 4000000 in
theorem okX0_differ {l : Launch} {D : va_G} {tys : List (ClassId × FieldType)} {o : zO} {z : Nat} (E : zEnv tys) : zCodeOk l D vwCl tys o z (zXX o z) zTs zprog mX0_differ := by
  intro p e R s m args below meth c0 Q ws0 hbc hbs C pc sem h
  replace hbc : R.cells = 0 := hbc
  replace hbs : R.slots = 0 := hbs
  replace C : zCx p R s m args meth c0 D vwCl tys z (zXX o z) zTs RX0 cX0_differ 3 "differ" := C
  refine zRows_get (P := fun pc sem => zOp p l e R s m args below meth c0 Q D vwCl tys o z (zXX o z) zTs zprog ws0 3 cX0_differ (some .int) pc sem) (c := kX0_differ) ?_ h
  unfold kX0_differ
  exact (zrs_c (zr_s (zq_aload_n C dX0_differ_0 rfl)
    (zr_s (zq_get (k := 2) C dX0_differ_1 (show vwCl[0]? = some (RX0, TX0, 12) from rfl) zinX0 (by decide) zw250)
    (zr_n (zr_n (zr_s (zq_iload_n C dX0_differ_4 rfl)
    (zr_s (zk_iald C dX0_differ_5)
    (zr_s (zq_aload_n C dX0_differ_6 rfl)
    (zr_s (zq_get (k := 2) C dX0_differ_7 (show vwCl[0]? = some (RX0, TX0, 12) from rfl) zinX0 (by decide) zw250)
    (zr_n (zr_n (zr_s (zq_iload_n C dX0_differ_10 rfl)
    (zr_s (zk_iald C dX0_differ_11)
    (zr_s (zk_sub C dX0_differ_12)
    (zr_s (zqb_abs C hbc hbs dX0_differ_13 zw679 zw680 zw9 zw681)
    (zr_n (zr_n zr_0))))))))))))))))
  (zrs_c (zr_s (zk_ret1 (ty := .int) C hbc hbs rfl rfl (Or.inl ⟨dX0_differ_16, by decide⟩))
    zr_0)
  zrs_0))
set_option maxRecDepth 100000 in
set_option maxHeartbeats 4000000 in
theorem okX0_hardBy {l : Launch} {D : va_G} {tys : List (ClassId × FieldType)} {o : zO} {z : Nat} (E : zEnv tys) : zCodeOk l D vwCl tys o z (zXX o z) zTs zprog mX0_hardBy := by
  intro p e R s m args below meth c0 Q ws0 hbc hbs C pc sem h
  replace hbc : R.cells = 0 := hbc
  replace hbs : R.slots = 0 := hbs
  replace C : zCx p R s m args meth c0 D vwCl tys z (zXX o z) zTs RX0 cX0_hardBy 5 "hardBy" := C
  refine zRows_get (P := fun pc sem => zOp p l e R s m args below meth c0 Q D vwCl tys o z (zXX o z) zTs zprog ws0 5 cX0_hardBy (some .int) pc sem) (c := kX0_hardBy) ?_ h
  unfold kX0_hardBy
  exact (zrs_c (zr_s (zq_aload_n C dX0_hardBy_0 rfl)
    (zr_s (zq_get (k := 3) C dX0_hardBy_1 (show vwCl[0]? = some (RX0, TX0, 12) from rfl) zinX0 (by decide) zw252)
    (zr_n (zr_n (zr_s (zq_iconst (n := .ofNat 0) C dX0_hardBy_4 (by decide))
    (zr_s (zq_iload C dX0_hardBy_5)
    (zr_n (zr_s (zk_iast C dX0_hardBy_7)
    (zr_s (zq_aload_n C dX0_hardBy_8 rfl)
    (zr_s (zq_get (k := 3) C dX0_hardBy_9 (show vwCl[0]? = some (RX0, TX0, 12) from rfl) zinX0 (by decide) zw252)
    (zr_n (zr_n (zr_s (zq_iconst (n := .ofNat 1) C dX0_hardBy_12 (by decide))
    (zr_s (zq_aload_n C dX0_hardBy_13 rfl)
    (zr_s (zq_getN (k := 1) C dX0_hardBy_14 (show vwCl[5]? = some (RX5, TX5, 6) from rfl) zinX5 (by decide) (fun U H h => zn20 h))
    (zr_n zr_0))))))))))))))))
  (zrs_c (zr_n (zr_s (zq_iload_n C dX0_hardBy_17 rfl)
    (zr_s (zk_iald C dX0_hardBy_18)
    (zr_s (zk_iast C dX0_hardBy_19)
    (zr_s (zq_aload_n C dX0_hardBy_20 rfl)
    (zr_s (zq_get (k := 3) C dX0_hardBy_21 (show vwCl[0]? = some (RX0, TX0, 12) from rfl) zinX0 (by decide) zw252)
    (zr_n (zr_n (zr_s (zq_iconst (n := .ofNat 2) C dX0_hardBy_24 (by decide))
    (zr_s (zq_aload_n C dX0_hardBy_25 rfl)
    (zr_s (zq_get (k := 2) C dX0_hardBy_26 (show vwCl[0]? = some (RX0, TX0, 12) from rfl) zinX0 (by decide) zw250)
    (zr_n (zr_n (zr_s (zq_iload_n C dX0_hardBy_29 rfl)
    (zr_s (zk_iald C dX0_hardBy_30)
    (zr_s (zk_iast C dX0_hardBy_31)
    zr_0))))))))))))))))
  (zrs_c (zr_s (zq_aload_n C dX0_hardBy_32 rfl)
    (zr_s (zq_get (k := 3) C dX0_hardBy_33 (show vwCl[0]? = some (RX0, TX0, 12) from rfl) zinX0 (by decide) zw252)
    (zr_n (zr_n (zr_s (zq_iconst (n := .ofNat 3) C dX0_hardBy_36 (by decide))
    (zr_s (zq_aload_n C dX0_hardBy_37 rfl)
    (zr_s (zq_get (k := 1) C dX0_hardBy_38 (show vwCl[0]? = some (RX0, TX0, 12) from rfl) zinX0 (by decide) zw248)
    (zr_n (zr_n (zr_s (zq_iload_n C dX0_hardBy_41 rfl)
    (zr_s (zk_iald C dX0_hardBy_42)
    (zr_s (zk_iast C dX0_hardBy_43)
    (zr_s (zq_aload_n C dX0_hardBy_44 rfl)
    (zr_s (zq_get (k := 3) C dX0_hardBy_45 (show vwCl[0]? = some (RX0, TX0, 12) from rfl) zinX0 (by decide) zw252)
    (zr_n (zr_n zr_0))))))))))))))))
  (zrs_c (zr_s (zq_iconst (n := .ofNat 4) C dX0_hardBy_48 (by decide))
    (zr_s (zq_iload_n C dX0_hardBy_49 rfl)
    (zr_s (zk_iast C dX0_hardBy_50)
    (zr_s (zq_aload_n C dX0_hardBy_51 rfl)
    (zr_s (zq_get (k := 3) C dX0_hardBy_52 (show vwCl[0]? = some (RX0, TX0, 12) from rfl) zinX0 (by decide) zw252)
    (zr_n (zr_n (zr_s (zq_iconst (n := .ofNat 5) C dX0_hardBy_55 (by decide))
    (zr_s (zq_aload_n C dX0_hardBy_56 rfl)
    (zr_s (zq_getN (k := 3) C dX0_hardBy_57 (show vwCl[5]? = some (RX5, TX5, 6) from rfl) zinX5 (by decide) (fun U H h => zn22 h))
    (zr_n (zr_n (zr_s (zq_bipush (n := .ofNat 7) C dX0_hardBy_60 (by decide) (by decide))
    (zr_n (zr_s (zq_irem C dX0_hardBy_62)
    (zr_s (zk_iast C dX0_hardBy_63)
    zr_0))))))))))))))))
  (zrs_c (zr_s (zq_aload_n C dX0_hardBy_64 rfl)
    (zr_s (zq_get (k := 3) C dX0_hardBy_65 (show vwCl[0]? = some (RX0, TX0, 12) from rfl) zinX0 (by decide) zw252)
    (zr_n (zr_n (zr_s (zq_bipush (n := .ofNat 6) C dX0_hardBy_68 (by decide) (by decide))
    (zr_n (zr_s (zq_aload_n C dX0_hardBy_70 rfl)
    (zr_s (zq_get (k := 0) C dX0_hardBy_71 (show vwCl[0]? = some (RX0, TX0, 12) from rfl) zinX0 (by decide) zw246)
    (zr_n (zr_n (zr_s (zq_iload_n C dX0_hardBy_74 rfl)
    (zr_s (zk_iald C dX0_hardBy_75)
    (zr_s (zk_callS C zXX_ok zTs_good hbc hbs (show zget zprog 14 = some mJ6_bitCount_0f7a4 from rfl) rfl rfl zw564 zw562 zw563 zw21 (by decide +kernel) dX0_hardBy_76)
    (zr_n (zr_n (zr_s (zk_iast C dX0_hardBy_79)
    zr_0))))))))))))))))
  (zrs_c (zr_s (zq_aload_n C dX0_hardBy_80 rfl)
    (zr_s (zq_aload_n C dX0_hardBy_81 rfl)
    (zr_s (zq_get (k := 3) C dX0_hardBy_82 (show vwCl[0]? = some (RX0, TX0, 12) from rfl) zinX0 (by decide) zw252)
    (zr_n (zr_n (zr_s (zk_callVN (n := 1) C zXX_ok zTs_good hbc hbs (show zget zprog 58 = some mX3_value from rfl) rfl rfl (show vwCl[3]? = some (RX3, TX3, 9) from rfl) zw571 (fun U H h => zn48 h) zw570 zs26 zw4 (by decide +kernel) dX0_hardBy_85)
    (zr_n (zr_n (zr_s (zq_iconst (n := .ofNat 0) C dX0_hardBy_88 (by decide))
    (zr_s (zq_sipush (n := .ofNat 999) C dX0_hardBy_89 (by decide) (by decide))
    (zr_n (zr_n (zr_s (zk_callSN C zXX_ok zTs_good hbc hbs (show zget zprog 107 = some mX7_between from rfl) rfl rfl zw581 (fun U H h => zn49 h) zw580 zw1 (by decide +kernel) dX0_hardBy_92)
    (zr_n (zr_n (zr_s (zk_ret1 (ty := .int) C hbc hbs rfl rfl (Or.inl ⟨dX0_hardBy_95, by decide⟩))
    zr_0))))))))))))))))
  zrs_0))))))
set_option maxRecDepth 100000 in
set_option maxHeartbeats 4000000 in
theorem okX0_has {l : Launch} {D : va_G} {tys : List (ClassId × FieldType)} {o : zO} {z : Nat} (E : zEnv tys) : zCodeOk l D vwCl tys o z (zXX o z) zTs zprog mX0_has := by
  intro p e R s m args below meth c0 Q ws0 hbc hbs C pc sem h
  replace hbc : R.cells = 0 := hbc
  replace hbs : R.slots = 0 := hbs
  replace C : zCx p R s m args meth c0 D vwCl tys z (zXX o z) zTs RX0 cX0_has 2 "has" := C
  refine zRows_get (P := fun pc sem => zOp p l e R s m args below meth c0 Q D vwCl tys o z (zXX o z) zTs zprog ws0 2 cX0_has (some .boolean) pc sem) (c := kX0_has) ?_ h
  unfold kX0_has
  exact (zrs_c (zr_s (zq_iload_n C dX0_has_0 rfl)
    (zr_s (zqr_if_lt C dX0_has_1 (by decide))
    (zr_n (zr_n (zr_s (zq_iload_n C dX0_has_4 rfl)
    (zr_s (zq_aload_n C dX0_has_5 rfl)
    (zr_s (zq_get (k := 6) C dX0_has_6 (show vwCl[0]? = some (RX0, TX0, 12) from rfl) zinX0 (by decide) zw255)
    (zr_n (zr_n (zr_s (zqr_ge C dX0_has_9 (by decide))
    (zr_n (zr_n (zr_s (zq_iconst (n := .ofNat 1) C dX0_has_12 (by decide))
    (zr_s (zk_goto C dX0_has_13 (by decide))
    (zr_n (zr_n zr_0))))))))))))))))
  (zrs_c (zr_s (zq_iconst (n := .ofNat 0) C dX0_has_16 (by decide))
    (zr_s (zk_ret1 (ty := .boolean) C hbc hbs rfl rfl (Or.inl ⟨dX0_has_17, by decide⟩))
    zr_0))
  zrs_0))
set_option maxRecDepth 100000 in
set_option maxHeartbeats 4000000 in
theorem okX0_init {l : Launch} {D : va_G} {tys : List (ClassId × FieldType)} {o : zO} {z : Nat} (E : zEnv tys) : zCodeOk l D vwCl tys o z (zXX o z) zTs zprog mX0_init := by
  intro p e R s m args below meth c0 Q ws0 hbc hbs C pc sem h
  replace hbc : R.cells = 11 := hbc
  replace hbs : R.slots = 181 := hbs
  replace C : zCx p R s m args meth c0 D vwCl tys z (zXX o z) zTs RX0 cX0_init 1 "<init>" := C
  refine zRows_get (P := fun pc sem => zOp p l e R s m args below meth c0 Q D vwCl tys o z (zXX o z) zTs zprog ws0 1 cX0_init none pc sem) (c := kX0_init) ?_ h
  unfold kX0_init
  exact (zrs_c (zr_s (zq_aload_n C dX0_init_0 rfl)
    (zr_s (zk_objInit C dX0_init_1 zw53 zw29 zw30)
    (zr_n (zr_n (zr_s (zq_aload_n C dX0_init_4 rfl)
    (zr_s (zq_bipush (n := .ofNat 8) C dX0_init_5 (by decide) (by decide))
    (zr_n (zr_s (zq_newI C hbc hbs dX0_init_7 zw47 E.1)
    (zr_n (zr_s (zq_putF (k := 0) C dX0_init_9 (show vwCl[0]? = some (RX0, TX0, 12) from rfl) zinX0 tyX0 tyX0_ok nmX0 (by decide) zw246 rfl rfl rfl (ty := (.array .int)) (by decide +kernel) rfl)
    (zr_n (zr_n (zr_s (zq_aload_n C dX0_init_12 rfl)
    (zr_s (zq_bipush (n := .ofNat 8) C dX0_init_13 (by decide) (by decide))
    (zr_n (zr_s (zq_newI C hbc hbs dX0_init_15 zw47 E.1)
    zr_0))))))))))))))))
  (zrs_c (zr_n (zr_s (zq_putF (k := 1) C dX0_init_17 (show vwCl[0]? = some (RX0, TX0, 12) from rfl) zinX0 tyX0 tyX0_ok nmX0 (by decide) zw248 rfl rfl rfl (ty := (.array .int)) (by decide +kernel) rfl)
    (zr_n (zr_n (zr_s (zq_aload_n C dX0_init_20 rfl)
    (zr_s (zq_bipush (n := .ofNat 8) C dX0_init_21 (by decide) (by decide))
    (zr_n (zr_s (zq_newI C hbc hbs dX0_init_23 zw47 E.1)
    (zr_n (zr_s (zq_putF (k := 2) C dX0_init_25 (show vwCl[0]? = some (RX0, TX0, 12) from rfl) zinX0 tyX0 tyX0_ok nmX0 (by decide) zw250 rfl rfl rfl (ty := (.array .int)) (by decide +kernel) rfl)
    (zr_n (zr_n (zr_s (zq_aload_n C dX0_init_28 rfl)
    (zr_s (zq_bipush (n := .ofNat 7) C dX0_init_29 (by decide) (by decide))
    (zr_n (zr_s (zq_newI C hbc hbs dX0_init_31 zw47 E.1)
    zr_0))))))))))))))))
  (zrs_c (zr_n (zr_s (zq_putF (k := 3) C dX0_init_33 (show vwCl[0]? = some (RX0, TX0, 12) from rfl) zinX0 tyX0 tyX0_ok nmX0 (by decide) zw252 rfl rfl rfl (ty := (.array .int)) (by decide +kernel) rfl)
    (zr_n (zr_n (zr_s (zq_aload_n C dX0_init_36 rfl)
    (zr_s (zq_bipush (n := .ofNat 8) C dX0_init_37 (by decide) (by decide))
    (zr_n (zr_s (zq_newI C hbc hbs dX0_init_39 zw47 E.1)
    (zr_n (zr_s (zq_putF (k := 4) C dX0_init_41 (show vwCl[0]? = some (RX0, TX0, 12) from rfl) zinX0 tyX0 tyX0_ok nmX0 (by decide) zw253 rfl rfl rfl (ty := (.array .int)) (by decide +kernel) rfl)
    (zr_n (zr_n (zr_s (zq_aload_n C dX0_init_44 rfl)
    (zr_s (zq_bipush (n := .ofNat 8) C dX0_init_45 (by decide) (by decide))
    (zr_n (zr_s (zq_newI C hbc hbs dX0_init_47 zw47 E.1)
    zr_0))))))))))))))))
  (zrs_c (zr_n (zr_s (zq_putF (k := 5) C dX0_init_49 (show vwCl[0]? = some (RX0, TX0, 12) from rfl) zinX0 tyX0 tyX0_ok nmX0 (by decide) zw254 rfl rfl rfl (ty := (.array .int)) (by decide +kernel) rfl)
    (zr_n (zr_n (zr_s (zq_aload_n C dX0_init_52 rfl)
    (zr_s (zq_bipush (n := .ofNat 8) C dX0_init_53 (by decide) (by decide))
    (zr_n (zr_s (zq_put (k := 7) C dX0_init_55 (show vwCl[0]? = some (RX0, TX0, 12) from rfl) zinX0 tyX0 tyX0_ok nmX0 (by decide) zw257 rfl (ty := .int) (by decide +kernel) rfl)
    (zr_n (zr_n (zr_s (zq_aload_n C dX0_init_58 rfl)
    (zr_s (zq_iconst (n := .ofNat 4) C dX0_init_59 (by decide))
    (zr_s (zq_put (k := 8) C dX0_init_60 (show vwCl[0]? = some (RX0, TX0, 12) from rfl) zinX0 tyX0 tyX0_ok nmX0 (by decide) zw259 rfl (ty := .int) (by decide +kernel) rfl)
    (zr_n (zr_n (zr_s (zq_aload_n C dX0_init_63 rfl)
    zr_0))))))))))))))))
  (zrs_c (zr_s (zk_new C hbc hbs dX0_init_64 (show vwCl[3]? = some (RX3, TX3, 9) from rfl) zinX3 tyX3 tyX3_ok zw54 zw55 zw4 zdfX3 (fun ad => zfrX3 o ad))
    (zr_n (zr_n (zr_s (zk_dup C dX0_init_67)
    (zr_s (zk_callIN (n := 0) C zXX_ok zTs_good hbc hbs (show zget zprog 48 = some mX3_init from rfl) rfl rfl rfl zw58 (fun U H h => zn5 h) zw57 zw4 rfl (by decide +kernel) dX0_init_68)
    (zr_n (zr_n (zr_s (zq_put (k := 9) C dX0_init_71 (show vwCl[0]? = some (RX0, TX0, 12) from rfl) zinX0 tyX0 tyX0_ok nmX0 (by decide) zw261 rfl (ty := (.object "RockingHorse$Rule")) (by decide +kernel) rfl)
    (zr_n (zr_n (zr_s (zk_ret0 C hbc hbs rfl dX0_init_74)
    zr_0)))))))))))
  zrs_0)))))
set_option maxRecDepth 100000 in
set_option maxHeartbeats 4000000 in
theorem okX0_isAble {l : Launch} {D : va_G} {tys : List (ClassId × FieldType)} {o : zO} {z : Nat} (E : zEnv tys) : zCodeOk l D vwCl tys o z (zXX o z) zTs zprog mX0_isAble := by
  intro p e R s m args below meth c0 Q ws0 hbc hbs C pc sem h
  replace hbc : R.cells = 0 := hbc
  replace hbs : R.slots = 0 := hbs
  replace C : zCx p R s m args meth c0 D vwCl tys z (zXX o z) zTs RX0 cX0_isAble 4 "isAble" := C
  refine zRows_get (P := fun pc sem => zOp p l e R s m args below meth c0 Q D vwCl tys o z (zXX o z) zTs zprog ws0 4 cX0_isAble (some .boolean) pc sem) (c := kX0_isAble) ?_ h
  unfold kX0_isAble
  exact (zrs_c (zr_s (zq_aload_n C dX0_isAble_0 rfl)
    (zr_s (zq_iload_n C dX0_isAble_1 rfl)
    (zr_s (zk_callV (n := 1) C zXX_ok zTs_good hbc hbs (show zget zprog 21 = some mX0_has from rfl) rfl rfl (show vwCl[0]? = some (RX0, TX0, 12) from rfl) zw550 zw636 zw549 zs23 zw3 (by decide +kernel) dX0_isAble_2)
    (zr_n (zr_n (zr_s (zqr_if_eq C dX0_isAble_5 (by decide))
    (zr_n (zr_n (zr_s (zq_aload_n C dX0_isAble_8 rfl)
    (zr_s (zq_get (k := 0) C dX0_isAble_9 (show vwCl[0]? = some (RX0, TX0, 12) from rfl) zinX0 (by decide) zw246)
    (zr_n (zr_n (zr_s (zq_iload_n C dX0_isAble_12 rfl)
    (zr_s (zk_iald C dX0_isAble_13)
    (zr_s (zq_iload_n C dX0_isAble_14 rfl)
    (zr_s (zq_ishr C dX0_isAble_15)
    zr_0))))))))))))))))
  (zrs_c (zr_s (zq_iconst (n := .ofNat 1) C dX0_isAble_16 (by decide))
    (zr_s (zqb_and C dX0_isAble_17)
    (zr_s (zq_iconst (n := .ofNat 1) C dX0_isAble_18 (by decide))
    (zr_s (zqr_ne C dX0_isAble_19 (by decide))
    (zr_n (zr_n (zr_s (zq_aload_n C dX0_isAble_22 rfl)
    (zr_s (zq_iload_n C dX0_isAble_23 rfl)
    (zr_s (zk_callVN (n := 1) C zXX_ok zTs_good hbc hbs (show zget zprog 88 = some mX5_isIll from rfl) rfl rfl (show vwCl[5]? = some (RX5, TX5, 6) from rfl) zw670 (fun U H h => zn58 h) zw669 zs39 zw11 (by decide +kernel) dX0_isAble_24)
    (zr_n (zr_n (zr_s (zqr_if_ne C dX0_isAble_27 (by decide))
    (zr_n (zr_n (zr_s (zq_iconst (n := .ofNat 1) C dX0_isAble_30 (by decide))
    (zr_s (zk_goto C dX0_isAble_31 (by decide))
    zr_0))))))))))))))))
  (zrs_c (zr_n (zr_n (zr_s (zq_iconst (n := .ofNat 0) C dX0_isAble_34 (by decide))
    (zr_s (zk_ret1 (ty := .boolean) C hbc hbs rfl rfl (Or.inl ⟨dX0_isAble_35, by decide⟩))
    zr_0))))
  zrs_0)))
set_option maxRecDepth 100000 in
set_option maxHeartbeats 4000000 in
theorem okX0_isSomebodyOrNobody {l : Launch} {D : va_G} {tys : List (ClassId × FieldType)} {o : zO} {z : Nat} (E : zEnv tys) : zCodeOk l D vwCl tys o z (zXX o z) zTs zprog mX0_isSomebodyOrNobody := by
  intro p e R s m args below meth c0 Q ws0 hbc hbs C pc sem h
  replace hbc : R.cells = 0 := hbc
  replace hbs : R.slots = 0 := hbs
  replace C : zCx p R s m args meth c0 D vwCl tys z (zXX o z) zTs RX0 cX0_isSomebodyOrNobody 2 "isSomebodyOrNobody" := C
  refine zRows_get (P := fun pc sem => zOp p l e R s m args below meth c0 Q D vwCl tys o z (zXX o z) zTs zprog ws0 2 cX0_isSomebodyOrNobody (some .boolean) pc sem) (c := kX0_isSomebodyOrNobody) ?_ h
  unfold kX0_isSomebodyOrNobody
  exact (zrs_c (zr_s (zq_iload_n C dX0_isSomebodyOrNobody_0 rfl)
    (zr_s (zq_iconst (n := .negSucc 0) C dX0_isSomebodyOrNobody_1 (by decide))
    (zr_s (zqr_eq C dX0_isSomebodyOrNobody_2 (by decide))
    (zr_n (zr_n (zr_s (zq_aload_n C dX0_isSomebodyOrNobody_5 rfl)
    (zr_s (zq_iload_n C dX0_isSomebodyOrNobody_6 rfl)
    (zr_s (zk_callV (n := 1) C zXX_ok zTs_good hbc hbs (show zget zprog 21 = some mX0_has from rfl) rfl rfl (show vwCl[0]? = some (RX0, TX0, 12) from rfl) zw550 zw636 zw549 zs23 zw3 (by decide +kernel) dX0_isSomebodyOrNobody_7)
    (zr_n (zr_n (zr_s (zqr_if_eq C dX0_isSomebodyOrNobody_10 (by decide))
    (zr_n (zr_n (zr_s (zq_iconst (n := .ofNat 1) C dX0_isSomebodyOrNobody_13 (by decide))
    (zr_s (zk_goto C dX0_isSomebodyOrNobody_14 (by decide))
    (zr_n zr_0))))))))))))))))
  (zrs_c (zr_n (zr_s (zq_iconst (n := .ofNat 0) C dX0_isSomebodyOrNobody_17 (by decide))
    (zr_s (zk_ret1 (ty := .boolean) C hbc hbs rfl rfl (Or.inl ⟨dX0_isSomebodyOrNobody_18, by decide⟩))
    zr_0)))
  zrs_0))
set_option maxRecDepth 100000 in
set_option maxHeartbeats 4000000 in
theorem okX0_pass {l : Launch} {D : va_G} {tys : List (ClassId × FieldType)} {o : zO} {z : Nat} (E : zEnv tys) : zCodeOk l D vwCl tys o z (zXX o z) zTs zprog mX0_pass := by
  intro p e R s m args below meth c0 Q ws0 hbc hbs C pc sem h
  replace hbc : R.cells = 0 := hbc
  replace hbs : R.slots = 0 := hbs
  replace C : zCx p R s m args meth c0 D vwCl tys z (zXX o z) zTs RX0 cX0_pass 4 "pass" := C
  refine zRows_get (P := fun pc sem => zOp p l e R s m args below meth c0 Q D vwCl tys o z (zXX o z) zTs zprog ws0 4 cX0_pass none pc sem) (c := kX0_pass) ?_ h
  unfold kX0_pass
  exact (zrs_c (zr_s (zq_aload_n C dX0_pass_0 rfl)
    (zr_s (zq_aload_n C dX0_pass_1 rfl)
    (zr_s (zk_callV (n := 1) C zXX_ok zTs_good hbc hbs (show zget zprog 32 = some mX0_watch from rfl) rfl rfl (show vwCl[0]? = some (RX0, TX0, 12) from rfl) zw661 zw658 zw660 zs37 zw3 (by decide +kernel) dX0_pass_2)
    (zr_n (zr_n (zr_s (zq_aload_n C dX0_pass_5 rfl)
    (zr_s (zq_get (k := 5) C dX0_pass_6 (show vwCl[0]? = some (RX0, TX0, 12) from rfl) zinX0 (by decide) zw254)
    (zr_n (zr_n (zr_s (zq_iconst (n := .ofNat 0) C dX0_pass_9 (by decide))
    (zr_s (zk_callS C zXX_ok zTs_good hbc hbs (show zget zprog 16 = some mJ7_fill_53178 from rfl) rfl rfl zw300 zw662 zw299 zw12 (by decide +kernel) dX0_pass_10)
    (zr_n (zr_n (zr_s (zq_iconst (n := .ofNat 0) C dX0_pass_13 (by decide))
    (zr_s (zq_istoreN_n C dX0_pass_14 rfl (by decide))
    (zr_s (zq_iload_n C dX0_pass_15 rfl)
    zr_0))))))))))))))))
  (zrs_c (zr_s (zq_aload_n C dX0_pass_16 rfl)
    (zr_s (zq_get (k := 7) C dX0_pass_17 (show vwCl[0]? = some (RX0, TX0, 12) from rfl) zinX0 (by decide) zw257)
    (zr_n (zr_n (zr_s (zqr_ge C dX0_pass_20 (by decide))
    (zr_n (zr_n (zr_s (zq_aload_n C dX0_pass_23 rfl)
    (zr_s (zq_getN (k := 0) C dX0_pass_24 (show vwCl[5]? = some (RX5, TX5, 6) from rfl) zinX5 (by decide) (fun U H h => zn18 h))
    (zr_n (zr_n (zr_s (zq_iload_n C dX0_pass_27 rfl)
    (zr_s (zk_iald C dX0_pass_28)
    (zr_s (zq_istoreN_n C dX0_pass_29 rfl (by decide))
    (zr_s (zq_aload_n C dX0_pass_30 rfl)
    (zr_s (zq_get (k := 11) C dX0_pass_31 (show vwCl[0]? = some (RX0, TX0, 12) from rfl) zinX0 (by decide) zw265)
    zr_0))))))))))))))))
  (zrs_c (zr_n (zr_n (zr_s (zq_iload_n C dX0_pass_34 rfl)
    (zr_s (zq_ishr C dX0_pass_35)
    (zr_s (zq_iconst (n := .ofNat 1) C dX0_pass_36 (by decide))
    (zr_s (zqb_and C dX0_pass_37)
    (zr_s (zq_iconst (n := .ofNat 1) C dX0_pass_38 (by decide))
    (zr_s (zqr_ne C dX0_pass_39 (by decide))
    (zr_n (zr_n (zr_s (zq_aload_n C dX0_pass_42 rfl)
    (zr_s (zq_iload_n C dX0_pass_43 rfl)
    (zr_s (zk_callV (n := 1) C zXX_ok zTs_good hbc hbs (show zget zprog 21 = some mX0_has from rfl) rfl rfl (show vwCl[0]? = some (RX0, TX0, 12) from rfl) zw550 zw636 zw549 zs23 zw3 (by decide +kernel) dX0_pass_44)
    (zr_n (zr_n (zr_s (zqr_if_eq C dX0_pass_47 (by decide))
    zr_0))))))))))))))))
  (zrs_c (zr_n (zr_n (zr_s (zq_aload_n C dX0_pass_50 rfl)
    (zr_s (zq_get (k := 5) C dX0_pass_51 (show vwCl[0]? = some (RX0, TX0, 12) from rfl) zinX0 (by decide) zw254)
    (zr_n (zr_n (zr_s (zq_iload_n C dX0_pass_54 rfl)
    (zr_s (zk_dup2 C dX0_pass_55)
    (zr_s (zk_iald C dX0_pass_56)
    (zr_s (zq_aload_n C dX0_pass_57 rfl)
    (zr_s (zq_aload_n C dX0_pass_58 rfl)
    (zr_s (zq_get (k := 9) C dX0_pass_59 (show vwCl[0]? = some (RX0, TX0, 12) from rfl) zinX0 (by decide) zw261)
    (zr_n (zr_n (zr_s (zq_aload_n C dX0_pass_62 rfl)
    (zr_s (zq_iload_n C dX0_pass_63 rfl)
    zr_0))))))))))))))))
  (zrs_c (zr_s (zq_iload_n C dX0_pass_64 rfl)
    (zr_s (zk_callV (n := 4) C zXX_ok zTs_good hbc hbs (show zget zprog 20 = some mX0_hardBy from rfl) rfl rfl (show vwCl[0]? = some (RX0, TX0, 12) from rfl) zw561 zw682 zw560 zs25 zw3 (by decide +kernel) dX0_pass_65)
    (zr_n (zr_n (zr_s (zk_add C dX0_pass_68)
    (zr_s (zk_iast C dX0_pass_69)
    (zr_s (zk_inc (n := .ofNat 1) C dX0_pass_70 (by decide) (by decide))
    (zr_n (zr_n (zr_s (zk_goto C dX0_pass_73 (by decide))
    (zr_n (zr_n (zr_s (zq_iconst (n := .ofNat 0) C dX0_pass_76 (by decide))
    (zr_s (zq_istoreN_n C dX0_pass_77 rfl (by decide))
    (zr_s (zq_iload_n C dX0_pass_78 rfl)
    (zr_s (zq_aload_n C dX0_pass_79 rfl)
    zr_0))))))))))))))))
  (zrs_c (zr_s (zq_get (k := 6) C dX0_pass_80 (show vwCl[0]? = some (RX0, TX0, 12) from rfl) zinX0 (by decide) zw255)
    (zr_n (zr_n (zr_s (zqr_ge C dX0_pass_83 (by decide))
    (zr_n (zr_n (zr_s (zq_aload_n C dX0_pass_86 rfl)
    (zr_s (zq_get (k := 4) C dX0_pass_87 (show vwCl[0]? = some (RX0, TX0, 12) from rfl) zinX0 (by decide) zw253)
    (zr_n (zr_n (zr_s (zq_iload_n C dX0_pass_90 rfl)
    (zr_s (zk_iald C dX0_pass_91)
    (zr_s (zqr_if_le C dX0_pass_92 (by decide))
    (zr_n (zr_n (zr_s (zq_aload_n C dX0_pass_95 rfl)
    zr_0))))))))))))))))
  (zrs_c (zr_s (zq_getN (k := 1) C dX0_pass_96 (show vwCl[5]? = some (RX5, TX5, 6) from rfl) zinX5 (by decide) (fun U H h => zn20 h))
    (zr_n (zr_n (zr_s (zq_iload_n C dX0_pass_99 rfl)
    (zr_s (zk_iald C dX0_pass_100)
    (zr_s (zq_aload_n C dX0_pass_101 rfl)
    (zr_s (zq_get (k := 5) C dX0_pass_102 (show vwCl[0]? = some (RX0, TX0, 12) from rfl) zinX0 (by decide) zw254)
    (zr_n (zr_n (zr_s (zq_iload_n C dX0_pass_105 rfl)
    (zr_s (zk_iald C dX0_pass_106)
    (zr_s (zk_add C dX0_pass_107)
    (zr_s (zk_goto C dX0_pass_108 (by decide))
    (zr_n (zr_n (zr_s (zq_aload_n C dX0_pass_111 rfl)
    zr_0))))))))))))))))
  (zrs_c (zr_s (zq_getN (k := 1) C dX0_pass_112 (show vwCl[5]? = some (RX5, TX5, 6) from rfl) zinX5 (by decide) (fun U H h => zn20 h))
    (zr_n (zr_n (zr_s (zq_iload_n C dX0_pass_115 rfl)
    (zr_s (zk_iald C dX0_pass_116)
    (zr_s (zq_iconst (n := .ofNat 5) C dX0_pass_117 (by decide))
    (zr_s (zk_sub C dX0_pass_118)
    (zr_s (zq_istoreN_n C dX0_pass_119 rfl (by decide))
    (zr_s (zq_aload_n C dX0_pass_120 rfl)
    (zr_s (zq_getN (k := 1) C dX0_pass_121 (show vwCl[5]? = some (RX5, TX5, 6) from rfl) zinX5 (by decide) (fun U H h => zn20 h))
    (zr_n (zr_n (zr_s (zq_iload_n C dX0_pass_124 rfl)
    (zr_s (zq_iload_n C dX0_pass_125 rfl)
    (zr_s (zq_iconst (n := .ofNat 0) C dX0_pass_126 (by decide))
    (zr_s (zq_bipush (n := .ofNat 99) C dX0_pass_127 (by decide) (by decide))
    zr_0))))))))))))))))
  (zrs_c (zr_n (zr_s (zk_callSN C zXX_ok zTs_good hbc hbs (show zget zprog 107 = some mX7_between from rfl) rfl rfl zw581 (fun U H h => zn49 h) zw580 zw1 (by decide +kernel) dX0_pass_129)
    (zr_n (zr_n (zr_s (zk_iast C dX0_pass_132)
    (zr_s (zk_inc (n := .ofNat 1) C dX0_pass_133 (by decide) (by decide))
    (zr_n (zr_n (zr_s (zk_goto C dX0_pass_136 (by decide))
    (zr_n (zr_n (zr_s (zq_aload_n C dX0_pass_139 rfl)
    (zr_s (zk_dup C dX0_pass_140)
    (zr_s (zq_getN (k := 4) C dX0_pass_141 (show vwCl[5]? = some (RX5, TX5, 6) from rfl) zinX5 (by decide) (fun U H h => zn25 h))
    (zr_n (zr_n zr_0))))))))))))))))
  (zrs_c (zr_s (zq_aload_n C dX0_pass_144 rfl)
    (zr_s (zq_get (k := 10) C dX0_pass_145 (show vwCl[0]? = some (RX0, TX0, 12) from rfl) zinX0 (by decide) zw263)
    (zr_n (zr_n (zr_s (zk_callS C zXX_ok zTs_good hbc hbs (show zget zprog 14 = some mJ6_bitCount_0f7a4 from rfl) rfl rfl zw564 zw562 zw563 zw21 (by decide +kernel) dX0_pass_148)
    (zr_n (zr_n (zr_s (zk_add C dX0_pass_151)
    (zr_s (zq_putN (k := 4) C dX0_pass_152 (show vwCl[5]? = some (RX5, TX5, 6) from rfl) zinX5 tyX5 tyX5_ok nmX5 (by decide) (fun U H h => zn25 h) rfl (ty := .int) (by decide +kernel) rfl)
    (zr_n (zr_n (zr_s (zq_aload_n C dX0_pass_155 rfl)
    (zr_s (zk_dup C dX0_pass_156)
    (zr_s (zq_getN (k := 5) C dX0_pass_157 (show vwCl[5]? = some (RX5, TX5, 6) from rfl) zinX5 (by decide) (fun U H h => zn27 h))
    (zr_n (zr_n zr_0))))))))))))))))
  (zrs_c (zr_s (zq_aload_n C dX0_pass_160 rfl)
    (zr_s (zq_get (k := 11) C dX0_pass_161 (show vwCl[0]? = some (RX0, TX0, 12) from rfl) zinX0 (by decide) zw265)
    (zr_n (zr_n (zr_s (zk_callS C zXX_ok zTs_good hbc hbs (show zget zprog 14 = some mJ6_bitCount_0f7a4 from rfl) rfl rfl zw564 zw562 zw563 zw21 (by decide +kernel) dX0_pass_164)
    (zr_n (zr_n (zr_s (zk_add C dX0_pass_167)
    (zr_s (zq_putN (k := 5) C dX0_pass_168 (show vwCl[5]? = some (RX5, TX5, 6) from rfl) zinX5 tyX5 tyX5_ok nmX5 (by decide) (fun U H h => zn27 h) rfl (ty := .int) (by decide +kernel) rfl)
    (zr_n (zr_n (zr_s (zq_aload_n C dX0_pass_171 rfl)
    (zr_s (zk_dup C dX0_pass_172)
    (zr_s (zq_getN (k := 3) C dX0_pass_173 (show vwCl[5]? = some (RX5, TX5, 6) from rfl) zinX5 (by decide) (fun U H h => zn22 h))
    (zr_n (zr_n zr_0))))))))))))))))
  (zrs_c (zr_s (zq_iconst (n := .ofNat 1) C dX0_pass_176 (by decide))
    (zr_s (zk_add C dX0_pass_177)
    (zr_s (zq_putN (k := 3) C dX0_pass_178 (show vwCl[5]? = some (RX5, TX5, 6) from rfl) zinX5 tyX5 tyX5_ok nmX5 (by decide) (fun U H h => zn22 h) rfl (ty := .int) (by decide +kernel) rfl)
    (zr_n (zr_n (zr_s (zk_ret0 C hbc hbs rfl dX0_pass_181)
    zr_0))))))
  zrs_0))))))))))))
set_option maxRecDepth 100000 in
set_option maxHeartbeats 4000000 in
theorem okX0_passAll {l : Launch} {D : va_G} {tys : List (ClassId × FieldType)} {o : zO} {z : Nat} (E : zEnv tys) : zCodeOk l D vwCl tys o z (zXX o z) zTs zprog mX0_passAll := by
  intro p e R s m args below meth c0 Q ws0 hbc hbs C pc sem h
  replace hbc : R.cells = 0 := hbc
  replace hbs : R.slots = 0 := hbs
  replace C : zCx p R s m args meth c0 D vwCl tys z (zXX o z) zTs RX0 cX0_passAll 4 "passAll" := C
  refine zRows_get (P := fun pc sem => zOp p l e R s m args below meth c0 Q D vwCl tys o z (zXX o z) zTs zprog ws0 4 cX0_passAll none pc sem) (c := kX0_passAll) ?_ h
  unfold kX0_passAll
  exact (zrs_c (zr_s (zq_iconst (n := .ofNat 0) C dX0_passAll_0 (by decide))
    (zr_s (zq_istoreN_n C dX0_passAll_1 rfl (by decide))
    (zr_s (zq_iload_n C dX0_passAll_2 rfl)
    (zr_s (zq_iload_n C dX0_passAll_3 rfl)
    (zr_s (zqr_ge C dX0_passAll_4 (by decide))
    (zr_n (zr_n (zr_s (zq_aload_n C dX0_passAll_7 rfl)
    (zr_s (zq_aload_n C dX0_passAll_8 rfl)
    (zr_s (zk_callV (n := 1) C zXX_ok zTs_good hbc hbs (show zget zprog 25 = some mX0_pass from rfl) rfl rfl (show vwCl[0]? = some (RX0, TX0, 12) from rfl) zw657 zw654 zw656 zs36 zw3 (by decide +kernel) dX0_passAll_9)
    (zr_n (zr_n (zr_s (zk_inc (n := .ofNat 1) C dX0_passAll_12 (by decide) (by decide))
    (zr_n (zr_n (zr_s (zk_goto C dX0_passAll_15 (by decide))
    zr_0))))))))))))))))
  (zrs_c (zr_n (zr_n (zr_s (zk_ret0 C hbc hbs rfl dX0_passAll_18)
    zr_0)))
  zrs_0))
set_option maxRecDepth 100000 in
set_option maxHeartbeats 4000000 in
theorem okX0_readRiders {l : Launch} {D : va_G} {tys : List (ClassId × FieldType)} {o : zO} {z : Nat} (E : zEnv tys) : zCodeOk l D vwCl tys o z (zXX o z) zTs zprog mX0_readRiders := by
  intro p e R s m args below meth c0 Q ws0 hbc hbs C pc sem h
  replace hbc : R.cells = 0 := hbc
  replace hbs : R.slots = 0 := hbs
  replace C : zCx p R s m args meth c0 D vwCl tys z (zXX o z) zTs RX0 cX0_readRiders 7 "readRiders" := C
  refine zRows_get (P := fun pc sem => zOp p l e R s m args below meth c0 Q D vwCl tys o z (zXX o z) zTs zprog ws0 7 cX0_readRiders (some .int) pc sem) (c := kX0_readRiders) ?_ h
  unfold kX0_readRiders
  exact (zrs_c (zr_s (zq_aload_n C dX0_readRiders_0 rfl)
    (zr_s (zq_getN (k := 1) C dX0_readRiders_1 (show vwCl[6]? = some (RX6, TX6, 2) from rfl) zinX6 (by decide) (fun U H h => zn2 h))
    (zr_n (zr_n (zr_s (zqr_if_ne C dX0_readRiders_4 (by decide))
    (zr_n (zr_n (zr_s (zq_iconst (n := .ofNat 0) C dX0_readRiders_7 (by decide))
    (zr_s (zk_ret1 (ty := .int) C hbc hbs rfl rfl (Or.inl ⟨dX0_readRiders_8, by decide⟩))
    (zr_s (zq_aload_n C dX0_readRiders_9 rfl)
    (zr_s (zq_getN (k := 1) C dX0_readRiders_10 (show vwCl[6]? = some (RX6, TX6, 2) from rfl) zinX6 (by decide) (fun U H h => zn2 h))
    (zr_n (zr_n (zr_s (zq_bipush (n := .ofNat 76) C dX0_readRiders_13 (by decide) (by decide))
    (zr_n (zr_s (zq_min C hbc hbs dX0_readRiders_15 zw496 zw149 zw9 zw150)
    zr_0))))))))))))))))
  (zrs_c (zr_n (zr_n (zr_s (zq_istoreN_n C dX0_readRiders_18 rfl (by decide))
    (zr_s (zq_iconst (n := .ofNat 0) C dX0_readRiders_19 (by decide))
    (zr_s (zq_istoreN_n C dX0_readRiders_20 rfl (by decide))
    (zr_s (zq_iconst (n := .ofNat 0) C dX0_readRiders_21 (by decide))
    (zr_s (zq_istoreN C dX0_readRiders_22 (by decide))
    (zr_n (zr_s (zq_iconst (n := .ofNat 0) C dX0_readRiders_24 (by decide))
    (zr_s (zq_istoreN C dX0_readRiders_25 (by decide))
    (zr_n (zr_s (zq_iload C dX0_readRiders_27)
    (zr_n (zr_s (zq_iload_n C dX0_readRiders_29 rfl)
    (zr_s (zqr_ge C dX0_readRiders_30 (by decide))
    (zr_n zr_0))))))))))))))))
  (zrs_c (zr_n (zr_s (zq_aload_n C dX0_readRiders_33 rfl)
    (zr_s (zq_aload_n C dX0_readRiders_34 rfl)
    (zr_s (zq_iload C dX0_readRiders_35)
    (zr_n (zr_s (zk_callVN (n := 1) C zXX_ok zTs_good hbc hbs (show zget zprog 93 = some mX6_at from rfl) rfl rfl (show vwCl[6]? = some (RX6, TX6, 2) from rfl) zw500 (fun U H h => zn41 h) zw499 zs13 zw2 (by decide +kernel) dX0_readRiders_37)
    (zr_n (zr_n (zr_s (zq_iload_n C dX0_readRiders_40 rfl)
    (zr_s (zq_aload_n C dX0_readRiders_41 rfl)
    (zr_s (zq_get (k := 6) C dX0_readRiders_42 (show vwCl[0]? = some (RX0, TX0, 12) from rfl) zinX0 (by decide) zw255)
    (zr_n (zr_n (zr_s (zq_iload C dX0_readRiders_45)
    (zr_n (zr_s (zk_add C dX0_readRiders_47)
    zr_0))))))))))))))))
  (zrs_c (zr_s (zk_callV (n := 3) C zXX_ok zTs_good hbc hbs (show zget zprog 30 = some mX0_takeSign from rfl) rfl rfl (show vwCl[0]? = some (RX0, TX0, 12) from rfl) zw504 zw501 zw503 zs14 zw3 (by decide +kernel) dX0_readRiders_48)
    (zr_n (zr_n (zr_s (zq_istoreN C dX0_readRiders_51 (by decide))
    (zr_n (zr_s (zq_iload C dX0_readRiders_53)
    (zr_n (zr_s (zq_iconst (n := .negSucc 0) C dX0_readRiders_55 (by decide))
    (zr_s (zqr_ne C dX0_readRiders_56 (by decide))
    (zr_n (zr_n (zr_s (zq_iconst (n := .negSucc 0) C dX0_readRiders_59 (by decide))
    (zr_s (zq_iload C dX0_readRiders_60)
    (zr_n (zr_s (zk_sub C dX0_readRiders_62)
    (zr_s (zk_ret1 (ty := .int) C hbc hbs rfl rfl (Or.inl ⟨dX0_readRiders_63, by decide⟩))
    zr_0))))))))))))))))
  (zrs_c (zr_s (zq_iload C dX0_readRiders_64)
    (zr_n (zr_s (zq_iload_n C dX0_readRiders_66 rfl)
    (zr_s (zq_iconst (n := .ofNat 1) C dX0_readRiders_67 (by decide))
    (zr_s (zqr_ne C dX0_readRiders_68 (by decide))
    (zr_n (zr_n (zr_s (zq_iconst (n := .ofNat 1) C dX0_readRiders_71 (by decide))
    (zr_s (zk_goto C dX0_readRiders_72 (by decide))
    (zr_n (zr_n (zr_s (zq_iconst (n := .ofNat 0) C dX0_readRiders_75 (by decide))
    (zr_s (zk_add C dX0_readRiders_76)
    (zr_s (zq_istoreN C dX0_readRiders_77 (by decide))
    (zr_n (zr_s (zq_iload C dX0_readRiders_79)
    zr_0))))))))))))))))
  (zrs_c (zr_n (zr_s (zq_istoreN_n C dX0_readRiders_81 rfl (by decide))
    (zr_s (zk_inc (n := .ofNat 1) C dX0_readRiders_82 (by decide) (by decide))
    (zr_n (zr_n (zr_s (zk_goto C dX0_readRiders_85 (by decide))
    (zr_n (zr_n (zr_s (zq_aload_n C dX0_readRiders_88 rfl)
    (zr_s (zq_getN (k := 1) C dX0_readRiders_89 (show vwCl[6]? = some (RX6, TX6, 2) from rfl) zinX6 (by decide) (fun U H h => zn2 h))
    (zr_n (zr_n (zr_s (zq_bipush (n := .ofNat 76) C dX0_readRiders_92 (by decide) (by decide))
    (zr_n (zr_s (zqr_gt C dX0_readRiders_94 (by decide))
    (zr_n zr_0))))))))))))))))
  (zrs_c (zr_n (zr_s (zq_iload_n C dX0_readRiders_97 rfl)
    (zr_s (zq_iconst (n := .ofNat 2) C dX0_readRiders_98 (by decide))
    (zr_s (zqr_ge C dX0_readRiders_99 (by decide))
    (zr_n (zr_n (zr_s (zq_iconst (n := .negSucc 0) C dX0_readRiders_102 (by decide))
    (zr_s (zq_iload_n C dX0_readRiders_103 rfl)
    (zr_s (zk_sub C dX0_readRiders_104)
    (zr_s (zk_ret1 (ty := .int) C hbc hbs rfl rfl (Or.inl ⟨dX0_readRiders_105, by decide⟩))
    (zr_s (zq_aload_n C dX0_readRiders_106 rfl)
    (zr_s (zk_dup C dX0_readRiders_107)
    (zr_s (zq_get (k := 6) C dX0_readRiders_108 (show vwCl[0]? = some (RX0, TX0, 12) from rfl) zinX0 (by decide) zw255)
    (zr_n (zr_n (zr_s (zq_iload C dX0_readRiders_111)
    zr_0))))))))))))))))
  (zrs_c (zr_n (zr_s (zk_add C dX0_readRiders_113)
    (zr_s (zq_put (k := 6) C dX0_readRiders_114 (show vwCl[0]? = some (RX0, TX0, 12) from rfl) zinX0 tyX0 tyX0_ok nmX0 (by decide) zw255 rfl (ty := .int) (by decide +kernel) rfl)
    (zr_n (zr_n (zr_s (zq_iload C dX0_readRiders_117)
    (zr_n (zr_s (zk_ret1 (ty := .int) C hbc hbs rfl rfl (Or.inl ⟨dX0_readRiders_119, by decide⟩))
    zr_0))))))))
  zrs_0))))))))
set_option maxRecDepth 100000 in
set_option maxHeartbeats 4000000 in
theorem okX0_takeHour {l : Launch} {D : va_G} {tys : List (ClassId × FieldType)} {o : zO} {z : Nat} (E : zEnv tys) : zCodeOk l D vwCl tys o z (zXX o z) zTs zprog mX0_takeHour := by
  intro p e R s m args below meth c0 Q ws0 hbc hbs C pc sem h
  replace hbc : R.cells = 0 := hbc
  replace hbs : R.slots = 0 := hbs
  replace C : zCx p R s m args meth c0 D vwCl tys z (zXX o z) zTs RX0 cX0_takeHour 3 "takeHour" := C
  refine zRows_get (P := fun pc sem => zOp p l e R s m args below meth c0 Q D vwCl tys o z (zXX o z) zTs zprog ws0 3 cX0_takeHour (some .int) pc sem) (c := kX0_takeHour) ?_ h
  unfold kX0_takeHour
  exact (zrs_c (zr_s (zq_iload_n C dX0_takeHour_0 rfl)
    (zr_s (zq_bipush (n := .ofNat 8) C dX0_takeHour_1 (by decide) (by decide))
    (zr_n (zr_s (zqr_ge C dX0_takeHour_3 (by decide))
    (zr_n (zr_n (zr_s (zq_aload_n C dX0_takeHour_6 rfl)
    (zr_s (zq_get (k := 0) C dX0_takeHour_7 (show vwCl[0]? = some (RX0, TX0, 12) from rfl) zinX0 (by decide) zw246)
    (zr_n (zr_n (zr_s (zq_iload_n C dX0_takeHour_10 rfl)
    (zr_s (zk_iald C dX0_takeHour_11)
    (zr_s (zq_iload_n C dX0_takeHour_12 rfl)
    (zr_s (zqr_lt C dX0_takeHour_13 (by decide))
    (zr_n (zr_n zr_0))))))))))))))))
  (zrs_c (zr_s (zq_iconst (n := .negSucc 0) C dX0_takeHour_16 (by decide))
    (zr_s (zk_ret1 (ty := .int) C hbc hbs rfl rfl (Or.inl ⟨dX0_takeHour_17, by decide⟩))
    (zr_s (zq_aload_n C dX0_takeHour_18 rfl)
    (zr_s (zq_get (k := 0) C dX0_takeHour_19 (show vwCl[0]? = some (RX0, TX0, 12) from rfl) zinX0 (by decide) zw246)
    (zr_n (zr_n (zr_s (zq_iload_n C dX0_takeHour_22 rfl)
    (zr_s (zk_dup2 C dX0_takeHour_23)
    (zr_s (zk_iald C dX0_takeHour_24)
    (zr_s (zq_iload_n C dX0_takeHour_25 rfl)
    (zr_s (zqb_or C dX0_takeHour_26)
    (zr_s (zk_iast C dX0_takeHour_27)
    (zr_s (zq_iconst (n := .ofNat 2) C dX0_takeHour_28 (by decide))
    (zr_s (zk_ret1 (ty := .int) C hbc hbs rfl rfl (Or.inl ⟨dX0_takeHour_29, by decide⟩))
    zr_0))))))))))))))
  zrs_0))
set_option maxRecDepth 100000 in
set_option maxHeartbeats 4000000 in
theorem okX0_takeMost {l : Launch} {D : va_G} {tys : List (ClassId × FieldType)} {o : zO} {z : Nat} (E : zEnv tys) : zCodeOk l D vwCl tys o z (zXX o z) zTs zprog mX0_takeMost := by
  intro p e R s m args below meth c0 Q ws0 hbc hbs C pc sem h
  replace hbc : R.cells = 0 := hbc
  replace hbs : R.slots = 0 := hbs
  replace C : zCx p R s m args meth c0 D vwCl tys z (zXX o z) zTs RX0 cX0_takeMost 3 "takeMost" := C
  refine zRows_get (P := fun pc sem => zOp p l e R s m args below meth c0 Q D vwCl tys o z (zXX o z) zTs zprog ws0 3 cX0_takeMost (some .int) pc sem) (c := kX0_takeMost) ?_ h
  unfold kX0_takeMost
  exact (zrs_c (zr_s (zq_aload_n C dX0_takeMost_0 rfl)
    (zr_s (zq_get (k := 1) C dX0_takeMost_1 (show vwCl[0]? = some (RX0, TX0, 12) from rfl) zinX0 (by decide) zw248)
    (zr_n (zr_n (zr_s (zq_iload_n C dX0_takeMost_4 rfl)
    (zr_s (zq_iload_n C dX0_takeMost_5 rfl)
    (zr_s (zk_iast C dX0_takeMost_6)
    (zr_s (zq_iconst (n := .ofNat 1) C dX0_takeMost_7 (by decide))
    (zr_s (zk_ret1 (ty := .int) C hbc hbs rfl rfl (Or.inl ⟨dX0_takeMost_8, by decide⟩))
    zr_0)))))))))
  zrs_0)
set_option maxRecDepth 100000 in
set_option maxHeartbeats 4000000 in
theorem okX0_takeSign {l : Launch} {D : va_G} {tys : List (ClassId × FieldType)} {o : zO} {z : Nat} (E : zEnv tys) : zCodeOk l D vwCl tys o z (zXX o z) zTs zprog mX0_takeSign := by
  intro p e R s m args below meth c0 Q ws0 hbc hbs C pc sem h
  replace hbc : R.cells = 0 := hbc
  replace hbs : R.slots = 0 := hbs
  replace C : zCx p R s m args meth c0 D vwCl tys z (zXX o z) zTs RX0 cX0_takeSign 4 "takeSign" := C
  refine zRows_get (P := fun pc sem => zOp p l e R s m args below meth c0 Q D vwCl tys o z (zXX o z) zTs zprog ws0 4 cX0_takeSign (some .int) pc sem) (c := kX0_takeSign) ?_ h
  unfold kX0_takeSign
  exact (zrs_c (zr_s (zq_iload_n C dX0_takeSign_0 rfl)
    (zr_s (zqr_if_ne C dX0_takeSign_1 (by decide))
    (zr_n (zr_n (zr_s (zq_iload_n C dX0_takeSign_4 rfl)
    (zr_s (zq_bipush (n := .ofNat 49) C dX0_takeSign_5 (by decide) (by decide))
    (zr_n (zr_s (zqr_lt C dX0_takeSign_7 (by decide))
    (zr_n (zr_n (zr_s (zq_iload_n C dX0_takeSign_10 rfl)
    (zr_s (zq_bipush (n := .ofNat 52) C dX0_takeSign_11 (by decide) (by decide))
    (zr_n (zr_s (zqr_gt C dX0_takeSign_13 (by decide))
    (zr_n (zr_n zr_0))))))))))))))))
  (zrs_c (zr_s (zq_iload_n C dX0_takeSign_16 rfl)
    (zr_s (zq_bipush (n := .ofNat 8) C dX0_takeSign_17 (by decide) (by decide))
    (zr_n (zr_s (zqr_ge C dX0_takeSign_19 (by decide))
    (zr_n (zr_n (zr_s (zq_aload_n C dX0_takeSign_22 rfl)
    (zr_s (zq_iload_n C dX0_takeSign_23 rfl)
    (zr_s (zq_iload_n C dX0_takeSign_24 rfl)
    (zr_s (zq_bipush (n := .ofNat 48) C dX0_takeSign_25 (by decide) (by decide))
    (zr_n (zr_s (zk_sub C dX0_takeSign_27)
    (zr_s (zk_callV (n := 2) C zXX_ok zTs_good hbc hbs (show zget zprog 29 = some mX0_takeMost from rfl) rfl rfl (show vwCl[0]? = some (RX0, TX0, 12) from rfl) zw508 zw505 zw507 zs15 zw3 (by decide +kernel) dX0_takeSign_28)
    (zr_n (zr_n (zr_s (zk_goto C dX0_takeSign_31 (by decide))
    zr_0))))))))))))))))
  (zrs_c (zr_n (zr_n (zr_s (zq_iconst (n := .negSucc 0) C dX0_takeSign_34 (by decide))
    (zr_s (zk_ret1 (ty := .int) C hbc hbs rfl rfl (Or.inl ⟨dX0_takeSign_35, by decide⟩))
    (zr_s (zq_iload_n C dX0_takeSign_36 rfl)
    (zr_s (zq_iconst (n := .ofNat 1) C dX0_takeSign_37 (by decide))
    (zr_s (zqr_ne C dX0_takeSign_38 (by decide))
    (zr_n (zr_n (zr_s (zq_iload_n C dX0_takeSign_41 rfl)
    (zr_s (zq_bipush (n := .ofNat 49) C dX0_takeSign_42 (by decide) (by decide))
    (zr_n (zr_s (zqr_lt C dX0_takeSign_44 (by decide))
    (zr_n (zr_n (zr_s (zq_iload_n C dX0_takeSign_47 rfl)
    zr_0))))))))))))))))
  (zrs_c (zr_s (zq_bipush (n := .ofNat 57) C dX0_takeSign_48 (by decide) (by decide))
    (zr_n (zr_s (zqr_gt C dX0_takeSign_50 (by decide))
    (zr_n (zr_n (zr_s (zq_iload_n C dX0_takeSign_53 rfl)
    (zr_s (zq_bipush (n := .ofNat 8) C dX0_takeSign_54 (by decide) (by decide))
    (zr_n (zr_s (zqr_ge C dX0_takeSign_56 (by decide))
    (zr_n (zr_n (zr_s (zq_aload_n C dX0_takeSign_59 rfl)
    (zr_s (zq_iload_n C dX0_takeSign_60 rfl)
    (zr_s (zq_iload_n C dX0_takeSign_61 rfl)
    (zr_s (zq_bipush (n := .ofNat 48) C dX0_takeSign_62 (by decide) (by decide))
    (zr_n zr_0))))))))))))))))
  (zrs_c (zr_s (zk_sub C dX0_takeSign_64)
    (zr_s (zk_callV (n := 2) C zXX_ok zTs_good hbc hbs (show zget zprog 31 = some mX0_takeWidth from rfl) rfl rfl (show vwCl[0]? = some (RX0, TX0, 12) from rfl) zw512 zw509 zw511 zs16 zw3 (by decide +kernel) dX0_takeSign_65)
    (zr_n (zr_n (zr_s (zk_goto C dX0_takeSign_68 (by decide))
    (zr_n (zr_n (zr_s (zq_iconst (n := .negSucc 0) C dX0_takeSign_71 (by decide))
    (zr_s (zk_ret1 (ty := .int) C hbc hbs rfl rfl (Or.inl ⟨dX0_takeSign_72, by decide⟩))
    (zr_s (zq_iload_n C dX0_takeSign_73 rfl)
    (zr_s (zq_bipush (n := .ofNat 59) C dX0_takeSign_74 (by decide) (by decide))
    (zr_n (zr_s (zqr_ne C dX0_takeSign_76 (by decide))
    (zr_n (zr_n (zr_s (zq_iconst (n := .ofNat 0) C dX0_takeSign_79 (by decide))
    zr_0))))))))))))))))
  (zrs_c (zr_s (zk_ret1 (ty := .int) C hbc hbs rfl rfl (Or.inl ⟨dX0_takeSign_80, by decide⟩))
    (zr_s (zq_iload_n C dX0_takeSign_81 rfl)
    (zr_s (zq_bipush (n := .ofNat 97) C dX0_takeSign_82 (by decide) (by decide))
    (zr_n (zr_s (zqr_lt C dX0_takeSign_84 (by decide))
    (zr_n (zr_n (zr_s (zq_iload_n C dX0_takeSign_87 rfl)
    (zr_s (zq_bipush (n := .ofNat 104) C dX0_takeSign_88 (by decide) (by decide))
    (zr_n (zr_s (zqr_gt C dX0_takeSign_90 (by decide))
    (zr_n (zr_n (zr_s (zq_iload_n C dX0_takeSign_93 rfl)
    (zr_s (zqr_if_le C dX0_takeSign_94 (by decide))
    (zr_n zr_0))))))))))))))))
  (zrs_c (zr_n (zr_s (zq_aload_n C dX0_takeSign_97 rfl)
    (zr_s (zq_iload_n C dX0_takeSign_98 rfl)
    (zr_s (zq_iconst (n := .ofNat 1) C dX0_takeSign_99 (by decide))
    (zr_s (zk_sub C dX0_takeSign_100)
    (zr_s (zq_iconst (n := .ofNat 1) C dX0_takeSign_101 (by decide))
    (zr_s (zq_iload_n C dX0_takeSign_102 rfl)
    (zr_s (zq_bipush (n := .ofNat 97) C dX0_takeSign_103 (by decide) (by decide))
    (zr_n (zr_s (zk_sub C dX0_takeSign_105)
    (zr_s (zq_ishl C dX0_takeSign_106)
    (zr_s (zk_callV (n := 2) C zXX_ok zTs_good hbc hbs (show zget zprog 28 = some mX0_takeHour from rfl) rfl rfl (show vwCl[0]? = some (RX0, TX0, 12) from rfl) zw516 zw513 zw515 zs17 zw3 (by decide +kernel) dX0_takeSign_107)
    (zr_n (zr_n (zr_s (zk_goto C dX0_takeSign_110 (by decide))
    (zr_n zr_0))))))))))))))))
  (zrs_c (zr_n (zr_s (zq_iconst (n := .negSucc 0) C dX0_takeSign_113 (by decide))
    (zr_s (zk_ret1 (ty := .int) C hbc hbs rfl rfl (Or.inl ⟨dX0_takeSign_114, by decide⟩))
    zr_0)))
  zrs_0))))))))
set_option maxRecDepth 100000 in
set_option maxHeartbeats 4000000 in
theorem okX0_takeWidth {l : Launch} {D : va_G} {tys : List (ClassId × FieldType)} {o : zO} {z : Nat} (E : zEnv tys) : zCodeOk l D vwCl tys o z (zXX o z) zTs zprog mX0_takeWidth := by
  intro p e R s m args below meth c0 Q ws0 hbc hbs C pc sem h
  replace hbc : R.cells = 0 := hbc
  replace hbs : R.slots = 0 := hbs
  replace C : zCx p R s m args meth c0 D vwCl tys z (zXX o z) zTs RX0 cX0_takeWidth 3 "takeWidth" := C
  refine zRows_get (P := fun pc sem => zOp p l e R s m args below meth c0 Q D vwCl tys o z (zXX o z) zTs zprog ws0 3 cX0_takeWidth (some .int) pc sem) (c := kX0_takeWidth) ?_ h
  unfold kX0_takeWidth
  exact (zrs_c (zr_s (zq_aload_n C dX0_takeWidth_0 rfl)
    (zr_s (zq_get (k := 2) C dX0_takeWidth_1 (show vwCl[0]? = some (RX0, TX0, 12) from rfl) zinX0 (by decide) zw250)
    (zr_n (zr_n (zr_s (zq_iload_n C dX0_takeWidth_4 rfl)
    (zr_s (zq_iload_n C dX0_takeWidth_5 rfl)
    (zr_s (zk_iast C dX0_takeWidth_6)
    (zr_s (zq_aload_n C dX0_takeWidth_7 rfl)
    (zr_s (zq_get (k := 0) C dX0_takeWidth_8 (show vwCl[0]? = some (RX0, TX0, 12) from rfl) zinX0 (by decide) zw246)
    (zr_n (zr_n (zr_s (zq_iload_n C dX0_takeWidth_11 rfl)
    (zr_s (zq_iconst (n := .ofNat 0) C dX0_takeWidth_12 (by decide))
    (zr_s (zk_iast C dX0_takeWidth_13)
    (zr_s (zq_iconst (n := .ofNat 2) C dX0_takeWidth_14 (by decide))
    (zr_s (zk_ret1 (ty := .int) C hbc hbs rfl rfl (Or.inl ⟨dX0_takeWidth_15, by decide⟩))
    zr_0))))))))))))))))
  zrs_0)
set_option maxRecDepth 100000 in
set_option maxHeartbeats 4000000 in
theorem okX0_watch {l : Launch} {D : va_G} {tys : List (ClassId × FieldType)} {o : zO} {z : Nat} (E : zEnv tys) : zCodeOk l D vwCl tys o z (zXX o z) zTs zprog mX0_watch := by
  intro p e R s m args below meth c0 Q ws0 hbc hbs C pc sem h
  replace hbc : R.cells = 0 := hbc
  replace hbs : R.slots = 0 := hbs
  replace C : zCx p R s m args meth c0 D vwCl tys z (zXX o z) zTs RX0 cX0_watch 5 "watch" := C
  refine zRows_get (P := fun pc sem => zOp p l e R s m args below meth c0 Q D vwCl tys o z (zXX o z) zTs zprog ws0 5 cX0_watch none pc sem) (c := kX0_watch) ?_ h
  unfold kX0_watch
  exact (zrs_c (zr_s (zq_aload_n C dX0_watch_0 rfl)
    (zr_s (zq_iconst (n := .ofNat 0) C dX0_watch_1 (by decide))
    (zr_s (zq_put (k := 10) C dX0_watch_2 (show vwCl[0]? = some (RX0, TX0, 12) from rfl) zinX0 tyX0 tyX0_ok nmX0 (by decide) zw263 rfl (ty := .int) (by decide +kernel) rfl)
    (zr_n (zr_n (zr_s (zq_aload_n C dX0_watch_5 rfl)
    (zr_s (zq_iconst (n := .ofNat 0) C dX0_watch_6 (by decide))
    (zr_s (zq_put (k := 11) C dX0_watch_7 (show vwCl[0]? = some (RX0, TX0, 12) from rfl) zinX0 tyX0 tyX0_ok nmX0 (by decide) zw265 rfl (ty := .int) (by decide +kernel) rfl)
    (zr_n (zr_n (zr_s (zq_aload_n C dX0_watch_10 rfl)
    (zr_s (zq_get (k := 4) C dX0_watch_11 (show vwCl[0]? = some (RX0, TX0, 12) from rfl) zinX0 (by decide) zw253)
    (zr_n (zr_n (zr_s (zq_iconst (n := .ofNat 0) C dX0_watch_14 (by decide))
    (zr_s (zk_callS C zXX_ok zTs_good hbc hbs (show zget zprog 16 = some mJ7_fill_53178 from rfl) rfl rfl zw300 zw662 zw299 zw12 (by decide +kernel) dX0_watch_15)
    zr_0))))))))))))))))
  (zrs_c (zr_n (zr_n (zr_s (zq_iconst (n := .negSucc 0) C dX0_watch_18 (by decide))
    (zr_s (zq_istoreN_n C dX0_watch_19 rfl (by decide))
    (zr_s (zq_iconst (n := .ofNat 0) C dX0_watch_20 (by decide))
    (zr_s (zq_istoreN_n C dX0_watch_21 rfl (by decide))
    (zr_s (zq_iload_n C dX0_watch_22 rfl)
    (zr_s (zq_aload_n C dX0_watch_23 rfl)
    (zr_s (zq_get (k := 7) C dX0_watch_24 (show vwCl[0]? = some (RX0, TX0, 12) from rfl) zinX0 (by decide) zw257)
    (zr_n (zr_n (zr_s (zqr_ge C dX0_watch_27 (by decide))
    (zr_n (zr_n (zr_s (zq_aload_n C dX0_watch_30 rfl)
    (zr_s (zq_getN (k := 0) C dX0_watch_31 (show vwCl[5]? = some (RX5, TX5, 6) from rfl) zinX5 (by decide) (fun U H h => zn18 h))
    zr_0))))))))))))))))
  (zrs_c (zr_n (zr_n (zr_s (zq_iload_n C dX0_watch_34 rfl)
    (zr_s (zk_iald C dX0_watch_35)
    (zr_s (zq_istoreN C dX0_watch_36 (by decide))
    (zr_n (zr_s (zq_aload_n C dX0_watch_38 rfl)
    (zr_s (zq_aload_n C dX0_watch_39 rfl)
    (zr_s (zq_iload C dX0_watch_40)
    (zr_n (zr_s (zq_iload_n C dX0_watch_42 rfl)
    (zr_s (zk_callV (n := 3) C zXX_ok zTs_good hbc hbs (show zget zprog 23 = some mX0_isAble from rfl) rfl rfl (show vwCl[0]? = some (RX0, TX0, 12) from rfl) zw666 zw663 zw665 zs38 zw3 (by decide +kernel) dX0_watch_43)
    (zr_n (zr_n (zr_s (zqr_if_eq C dX0_watch_46 (by decide))
    (zr_n zr_0))))))))))))))))
  (zrs_c (zr_n (zr_s (zq_aload_n C dX0_watch_49 rfl)
    (zr_s (zq_get (k := 4) C dX0_watch_50 (show vwCl[0]? = some (RX0, TX0, 12) from rfl) zinX0 (by decide) zw253)
    (zr_n (zr_n (zr_s (zq_iload C dX0_watch_53)
    (zr_n (zr_s (zk_iald C dX0_watch_55)
    (zr_s (zq_aload_n C dX0_watch_56 rfl)
    (zr_s (zq_get (k := 1) C dX0_watch_57 (show vwCl[0]? = some (RX0, TX0, 12) from rfl) zinX0 (by decide) zw248)
    (zr_n (zr_n (zr_s (zq_iload C dX0_watch_60)
    (zr_n (zr_s (zk_iald C dX0_watch_62)
    (zr_s (zqr_lt C dX0_watch_63 (by decide))
    zr_0))))))))))))))))
  (zrs_c (zr_n (zr_n (zr_s (zq_aload_n C dX0_watch_66 rfl)
    (zr_s (zk_dup C dX0_watch_67)
    (zr_s (zq_get (k := 10) C dX0_watch_68 (show vwCl[0]? = some (RX0, TX0, 12) from rfl) zinX0 (by decide) zw263)
    (zr_n (zr_n (zr_s (zq_iconst (n := .ofNat 1) C dX0_watch_71 (by decide))
    (zr_s (zq_iload_n C dX0_watch_72 rfl)
    (zr_s (zq_ishl C dX0_watch_73)
    (zr_s (zqb_or C dX0_watch_74)
    (zr_s (zq_put (k := 10) C dX0_watch_75 (show vwCl[0]? = some (RX0, TX0, 12) from rfl) zinX0 tyX0 tyX0_ok nmX0 (by decide) zw263 rfl (ty := .int) (by decide +kernel) rfl)
    (zr_n (zr_n (zr_s (zq_iconst (n := .negSucc 0) C dX0_watch_78 (by decide))
    (zr_s (zq_istoreN_n C dX0_watch_79 rfl (by decide))
    zr_0))))))))))))))))
  (zrs_c (zr_s (zk_goto C dX0_watch_80 (by decide))
    (zr_n (zr_n (zr_s (zq_aload_n C dX0_watch_83 rfl)
    (zr_s (zq_get (k := 4) C dX0_watch_84 (show vwCl[0]? = some (RX0, TX0, 12) from rfl) zinX0 (by decide) zw253)
    (zr_n (zr_n (zr_s (zq_iload C dX0_watch_87)
    (zr_n (zr_s (zk_dup2 C dX0_watch_89)
    (zr_s (zk_iald C dX0_watch_90)
    (zr_s (zq_iconst (n := .ofNat 1) C dX0_watch_91 (by decide))
    (zr_s (zk_add C dX0_watch_92)
    (zr_s (zk_iast C dX0_watch_93)
    (zr_s (zq_aload_n C dX0_watch_94 rfl)
    (zr_s (zk_dup C dX0_watch_95)
    zr_0))))))))))))))))
  (zrs_c (zr_s (zq_get (k := 11) C dX0_watch_96 (show vwCl[0]? = some (RX0, TX0, 12) from rfl) zinX0 (by decide) zw265)
    (zr_n (zr_n (zr_s (zq_iconst (n := .ofNat 1) C dX0_watch_99 (by decide))
    (zr_s (zq_iload_n C dX0_watch_100 rfl)
    (zr_s (zq_ishl C dX0_watch_101)
    (zr_s (zqb_or C dX0_watch_102)
    (zr_s (zq_put (k := 11) C dX0_watch_103 (show vwCl[0]? = some (RX0, TX0, 12) from rfl) zinX0 tyX0 tyX0_ok nmX0 (by decide) zw265 rfl (ty := .int) (by decide +kernel) rfl)
    (zr_n (zr_n (zr_s (zq_aload_n C dX0_watch_106 rfl)
    (zr_s (zq_iload_n C dX0_watch_107 rfl)
    (zr_s (zq_iload C dX0_watch_108)
    (zr_n (zr_s (zk_callV (n := 2) C zXX_ok zTs_good hbc hbs (show zget zprog 18 = some mX0_areTwo from rfl) rfl rfl (show vwCl[0]? = some (RX0, TX0, 12) from rfl) zw674 zw671 zw673 zs40 zw3 (by decide +kernel) dX0_watch_110)
    (zr_n zr_0))))))))))))))))
  (zrs_c (zr_n (zr_s (zqr_if_eq C dX0_watch_113 (by decide))
    (zr_n (zr_n (zr_s (zq_aload_n C dX0_watch_116 rfl)
    (zr_s (zq_iload_n C dX0_watch_117 rfl)
    (zr_s (zq_iload C dX0_watch_118)
    (zr_n (zr_s (zk_callV (n := 2) C zXX_ok zTs_good hbc hbs (show zget zprog 19 = some mX0_differ from rfl) rfl rfl (show vwCl[0]? = some (RX0, TX0, 12) from rfl) zw678 zw675 zw677 zs41 zw3 (by decide +kernel) dX0_watch_120)
    (zr_n (zr_n (zr_s (zq_aload_n C dX0_watch_123 rfl)
    (zr_s (zq_get (k := 8) C dX0_watch_124 (show vwCl[0]? = some (RX0, TX0, 12) from rfl) zinX0 (by decide) zw259)
    (zr_n (zr_n (zr_s (zqr_le C dX0_watch_127 (by decide))
    zr_0))))))))))))))))
  (zrs_c (zr_n (zr_n (zr_s (zq_aload_n C dX0_watch_130 rfl)
    (zr_s (zk_dup C dX0_watch_131)
    (zr_s (zq_get (k := 10) C dX0_watch_132 (show vwCl[0]? = some (RX0, TX0, 12) from rfl) zinX0 (by decide) zw263)
    (zr_n (zr_n (zr_s (zq_iconst (n := .ofNat 1) C dX0_watch_135 (by decide))
    (zr_s (zq_iload_n C dX0_watch_136 rfl)
    (zr_s (zq_ishl C dX0_watch_137)
    (zr_s (zqb_or C dX0_watch_138)
    (zr_s (zq_put (k := 10) C dX0_watch_139 (show vwCl[0]? = some (RX0, TX0, 12) from rfl) zinX0 tyX0 tyX0_ok nmX0 (by decide) zw263 rfl (ty := .int) (by decide +kernel) rfl)
    (zr_n (zr_n (zr_s (zq_iload C dX0_watch_142)
    (zr_n zr_0))))))))))))))))
  (zrs_c (zr_s (zq_istoreN_n C dX0_watch_144 rfl (by decide))
    (zr_s (zk_inc (n := .ofNat 1) C dX0_watch_145 (by decide) (by decide))
    (zr_n (zr_n (zr_s (zk_goto C dX0_watch_148 (by decide))
    (zr_n (zr_n (zr_s (zk_ret0 C hbc hbs rfl dX0_watch_151)
    zr_0))))))))
  zrs_0))))))))))
set_option maxRecDepth 100000 in
set_option maxHeartbeats 4000000 in
theorem okX1_add {l : Launch} {D : va_G} {tys : List (ClassId × FieldType)} {o : zO} {z : Nat} (E : zEnv tys) : zCodeOk l D vwCl tys o z (zXX o z) zTs zprog mX1_add := by
  intro p e R s m args below meth c0 Q ws0 hbc hbs C pc sem h
  replace hbc : R.cells = 0 := hbc
  replace hbs : R.slots = 0 := hbs
  replace C : zCx p R s m args meth c0 D vwCl tys z (zXX o z) zTs RX1 cX1_add 3 "add" := C
  refine zRows_get (P := fun pc sem => zOp p l e R s m args below meth c0 Q D vwCl tys o z (zXX o z) zTs zprog ws0 3 cX1_add none pc sem) (c := kX1_add) ?_ h
  unfold kX1_add
  exact (zrs_c (zr_s (zq_aload_n C dX1_add_0 rfl)
    (zr_s (zq_get (k := 1) C dX1_add_1 (show vwCl[1]? = some (RX1, TX1, 2) from rfl) zinX1 (by decide) zw414)
    (zr_n (zr_n (zr_s (zq_aload_n C dX1_add_4 rfl)
    (zr_s (zq_get (k := 0) C dX1_add_5 (show vwCl[1]? = some (RX1, TX1, 2) from rfl) zinX1 (by decide) zw413)
    (zr_n (zr_n (zr_s (zk_len C dX1_add_8)
    (zr_s (zqr_ge C dX1_add_9 (by decide))
    (zr_n (zr_n (zr_s (zq_aload_n C dX1_add_12 rfl)
    (zr_s (zq_get (k := 0) C dX1_add_13 (show vwCl[1]? = some (RX1, TX1, 2) from rfl) zinX1 (by decide) zw413)
    (zr_n (zr_n zr_0))))))))))))))))
  (zrs_c (zr_s (zq_aload_n C dX1_add_16 rfl)
    (zr_s (zq_get (k := 1) C dX1_add_17 (show vwCl[1]? = some (RX1, TX1, 2) from rfl) zinX1 (by decide) zw414)
    (zr_n (zr_n (zr_s (zq_lload_n C dX1_add_20 rfl)
    (zr_s (zk_last C dX1_add_21)
    (zr_s (zq_aload_n C dX1_add_22 rfl)
    (zr_s (zk_dup C dX1_add_23)
    (zr_s (zq_get (k := 1) C dX1_add_24 (show vwCl[1]? = some (RX1, TX1, 2) from rfl) zinX1 (by decide) zw414)
    (zr_n (zr_n (zr_s (zq_iconst (n := .ofNat 1) C dX1_add_27 (by decide))
    (zr_s (zk_add C dX1_add_28)
    (zr_s (zq_put (k := 1) C dX1_add_29 (show vwCl[1]? = some (RX1, TX1, 2) from rfl) zinX1 tyX1 tyX1_ok nmX1 (by decide) zw414 rfl (ty := .int) (by decide +kernel) rfl)
    (zr_n (zr_n zr_0))))))))))))))))
  (zrs_c (zr_s (zk_ret0 C hbc hbs rfl dX1_add_32)
    zr_0)
  zrs_0)))
set_option maxRecDepth 100000 in
set_option maxHeartbeats 4000000 in
theorem okX1_at {l : Launch} {D : va_G} {tys : List (ClassId × FieldType)} {o : zO} {z : Nat} (E : zEnv tys) : zCodeOk l D vwCl tys o z (zXX o z) zTs zprog mX1_at := by
  intro p e R s m args below meth c0 Q ws0 hbc hbs C pc sem h
  replace hbc : R.cells = 0 := hbc
  replace hbs : R.slots = 0 := hbs
  replace C : zCx p R s m args meth c0 D vwCl tys z (zXX o z) zTs RX1 cX1_at 2 "at" := C
  refine zRows_get (P := fun pc sem => zOp p l e R s m args below meth c0 Q D vwCl tys o z (zXX o z) zTs zprog ws0 2 cX1_at (some .long) pc sem) (c := kX1_at) ?_ h
  unfold kX1_at
  exact (zrs_c (zr_s (zq_iload_n C dX1_at_0 rfl)
    (zr_s (zqr_if_lt C dX1_at_1 (by decide))
    (zr_n (zr_n (zr_s (zq_iload_n C dX1_at_4 rfl)
    (zr_s (zq_aload_n C dX1_at_5 rfl)
    (zr_s (zq_get (k := 1) C dX1_at_6 (show vwCl[1]? = some (RX1, TX1, 2) from rfl) zinX1 (by decide) zw414)
    (zr_n (zr_n (zr_s (zqr_ge C dX1_at_9 (by decide))
    (zr_n (zr_n (zr_s (zq_aload_n C dX1_at_12 rfl)
    (zr_s (zq_get (k := 0) C dX1_at_13 (show vwCl[1]? = some (RX1, TX1, 2) from rfl) zinX1 (by decide) zw413)
    (zr_n (zr_n zr_0))))))))))))))))
  (zrs_c (zr_s (zq_iload_n C dX1_at_16 rfl)
    (zr_s (zk_lald C dX1_at_17)
    (zr_s (zk_goto C dX1_at_18 (by decide))
    (zr_n (zr_n (zr_s (zq_lconst (n := .ofNat 0) C dX1_at_21 (by decide) (by decide))
    (zr_s (zk_ret1 C hbc hbs rfl rfl (Or.inr ⟨dX1_at_22, rfl⟩))
    zr_0)))))))
  zrs_0))
set_option maxRecDepth 100000 in
set_option maxHeartbeats 4000000 in
theorem okX1_clear {l : Launch} {D : va_G} {tys : List (ClassId × FieldType)} {o : zO} {z : Nat} (E : zEnv tys) : zCodeOk l D vwCl tys o z (zXX o z) zTs zprog mX1_clear := by
  intro p e R s m args below meth c0 Q ws0 hbc hbs C pc sem h
  replace hbc : R.cells = 0 := hbc
  replace hbs : R.slots = 0 := hbs
  replace C : zCx p R s m args meth c0 D vwCl tys z (zXX o z) zTs RX1 cX1_clear 1 "clear" := C
  refine zRows_get (P := fun pc sem => zOp p l e R s m args below meth c0 Q D vwCl tys o z (zXX o z) zTs zprog ws0 1 cX1_clear none pc sem) (c := kX1_clear) ?_ h
  unfold kX1_clear
  exact (zrs_c (zr_s (zq_aload_n C dX1_clear_0 rfl)
    (zr_s (zq_iconst (n := .ofNat 0) C dX1_clear_1 (by decide))
    (zr_s (zq_put (k := 1) C dX1_clear_2 (show vwCl[1]? = some (RX1, TX1, 2) from rfl) zinX1 tyX1 tyX1_ok nmX1 (by decide) zw414 rfl (ty := .int) (by decide +kernel) rfl)
    (zr_n (zr_n (zr_s (zk_ret0 C hbc hbs rfl dX1_clear_5)
    zr_0))))))
  zrs_0)
set_option maxRecDepth 100000 in
set_option maxHeartbeats 4000000 in
theorem okX1_init {l : Launch} {D : va_G} {tys : List (ClassId × FieldType)} {o : zO} {z : Nat} (E : zEnv tys) : zCodeOk l D vwCl tys o z (zXX o z) zTs zprog mX1_init := by
  intro p e R s m args below meth c0 Q ws0 hbc hbs C pc sem h
  replace hbc : R.cells = 1 := hbc
  replace hbs : R.slots = 8 := hbs
  replace C : zCx p R s m args meth c0 D vwCl tys z (zXX o z) zTs RX1 cX1_init 1 "<init>" := C
  refine zRows_get (P := fun pc sem => zOp p l e R s m args below meth c0 Q D vwCl tys o z (zXX o z) zTs zprog ws0 1 cX1_init none pc sem) (c := kX1_init) ?_ h
  unfold kX1_init
  exact (zrs_c (zr_s (zq_aload_n C dX1_init_0 rfl)
    (zr_s (zk_objInit C dX1_init_1 zw412 zw29 zw30)
    (zr_n (zr_n (zr_s (zq_aload_n C dX1_init_4 rfl)
    (zr_s (zq_bipush (n := .ofNat 8) C dX1_init_5 (by decide) (by decide))
    (zr_n (zr_s (zq_newJ C hbc hbs dX1_init_7 zw406 E.2.1)
    (zr_n (zr_s (zq_putF (k := 0) C dX1_init_9 (show vwCl[1]? = some (RX1, TX1, 2) from rfl) zinX1 tyX1 tyX1_ok nmX1 (by decide) zw413 rfl rfl rfl (ty := (.array .long)) (by decide +kernel) rfl)
    (zr_n (zr_n (zr_s (zk_ret0 C hbc hbs rfl dX1_init_12)
    zr_0)))))))))))))
  zrs_0)
set_option maxRecDepth 100000 in
set_option maxHeartbeats 4000000 in
theorem okX1_tell {l : Launch} {D : va_G} {tys : List (ClassId × FieldType)} {o : zO} {z : Nat} (E : zEnv tys) : zCodeOk l D vwCl tys o z (zXX o z) zTs zprog mX1_tell := by
  intro p e R s m args below meth c0 Q ws0 hbc hbs C pc sem h
  replace hbc : R.cells = 0 := hbc
  replace hbs : R.slots = 0 := hbs
  replace C : zCx p R s m args meth c0 D vwCl tys z (zXX o z) zTs RX1 cX1_tell 3 "tell" := C
  refine zRows_get (P := fun pc sem => zOp p l e R s m args below meth c0 Q D vwCl tys o z (zXX o z) zTs zprog ws0 3 cX1_tell none pc sem) (c := kX1_tell) ?_ h
  unfold kX1_tell
  exact (zrs_c (zr_s (zq_aload_n C dX1_tell_0 rfl)
    (zr_s (zk_callV (n := 0) C zXX_ok zTs_good hbc hbs (show zget zprog 35 = some mX1_clear from rfl) rfl rfl (show vwCl[1]? = some (RX1, TX1, 2) from rfl) zw690 zw687 zw689 zs43 zw15 (by decide +kernel) dX1_tell_1)
    (zr_n (zr_n (zr_s (zq_aload_n C dX1_tell_4 rfl)
    (zr_s (zq_lload_n C dX1_tell_5 rfl)
    (zr_s (zk_callV (n := 1) C zXX_ok zTs_good hbc hbs (show zget zprog 33 = some mX1_add from rfl) rfl rfl (show vwCl[1]? = some (RX1, TX1, 2) from rfl) zw694 zw691 zw693 zs44 zw15 (by decide +kernel) dX1_tell_6)
    (zr_n (zr_n (zr_s (zk_ret0 C hbc hbs rfl dX1_tell_9)
    zr_0))))))))))
  zrs_0)
set_option maxRecDepth 100000 in
set_option maxHeartbeats 4000000 in
theorem okX1_tell_ {l : Launch} {D : va_G} {tys : List (ClassId × FieldType)} {o : zO} {z : Nat} (E : zEnv tys) : zCodeOk l D vwCl tys o z (zXX o z) zTs zprog mX1_tell_ := by
  intro p e R s m args below meth c0 Q ws0 hbc hbs C pc sem h
  replace hbc : R.cells = 0 := hbc
  replace hbs : R.slots = 0 := hbs
  replace C : zCx p R s m args meth c0 D vwCl tys z (zXX o z) zTs RX1 cX1_tell_ 5 "tell" := C
  refine zRows_get (P := fun pc sem => zOp p l e R s m args below meth c0 Q D vwCl tys o z (zXX o z) zTs zprog ws0 5 cX1_tell_ none pc sem) (c := kX1_tell_) ?_ h
  unfold kX1_tell_
  exact (zrs_c (zr_s (zq_aload_n C dX1_tell__0 rfl)
    (zr_s (zk_callV (n := 0) C zXX_ok zTs_good hbc hbs (show zget zprog 35 = some mX1_clear from rfl) rfl rfl (show vwCl[1]? = some (RX1, TX1, 2) from rfl) zw690 zw687 zw689 zs43 zw15 (by decide +kernel) dX1_tell__1)
    (zr_n (zr_n (zr_s (zq_aload_n C dX1_tell__4 rfl)
    (zr_s (zq_lload_n C dX1_tell__5 rfl)
    (zr_s (zk_callV (n := 1) C zXX_ok zTs_good hbc hbs (show zget zprog 33 = some mX1_add from rfl) rfl rfl (show vwCl[1]? = some (RX1, TX1, 2) from rfl) zw694 zw691 zw693 zs44 zw15 (by decide +kernel) dX1_tell__6)
    (zr_n (zr_n (zr_s (zq_aload_n C dX1_tell__9 rfl)
    (zr_s (zq_lload_n C dX1_tell__10 rfl)
    (zr_s (zk_callV (n := 1) C zXX_ok zTs_good hbc hbs (show zget zprog 33 = some mX1_add from rfl) rfl rfl (show vwCl[1]? = some (RX1, TX1, 2) from rfl) zw694 zw691 zw693 zs44 zw15 (by decide +kernel) dX1_tell__11)
    (zr_n (zr_n (zr_s (zk_ret0 C hbc hbs rfl dX1_tell__14)
    zr_0)))))))))))))))
  zrs_0)
set_option maxRecDepth 100000 in
set_option maxHeartbeats 4000000 in
theorem okX2_clear {l : Launch} {D : va_G} {tys : List (ClassId × FieldType)} {o : zO} {z : Nat} (E : zEnv tys) : zCodeOk l D vwCl tys o z (zXX o z) zTs zprog mX2_clear := by
  intro p e R s m args below meth c0 Q ws0 hbc hbs C pc sem h
  replace hbc : R.cells = 0 := hbc
  replace hbs : R.slots = 0 := hbs
  replace C : zCx p R s m args meth c0 D vwCl tys z (zXX o z) zTs RX2 cX2_clear 1 "clear" := C
  refine zRows_get (P := fun pc sem => zOp p l e R s m args below meth c0 Q D vwCl tys o z (zXX o z) zTs zprog ws0 1 cX2_clear none pc sem) (c := kX2_clear) ?_ h
  unfold kX2_clear
  exact (zrs_c (zr_s (zq_aload_n C dX2_clear_0 rfl)
    (zr_s (zq_iconst (n := .ofNat 0) C dX2_clear_1 (by decide))
    (zr_s (zq_put (k := 2) C dX2_clear_2 (show vwCl[2]? = some (RX2, TX2, 3) from rfl) zinX2 tyX2 tyX2_ok nmX2 (by decide) zw342 rfl (ty := .int) (by decide +kernel) rfl)
    (zr_n (zr_n (zr_s (zk_ret0 C hbc hbs rfl dX2_clear_5)
    zr_0))))))
  zrs_0)
set_option maxRecDepth 100000 in
set_option maxHeartbeats 4000000 in
theorem okX2_init {l : Launch} {D : va_G} {tys : List (ClassId × FieldType)} {o : zO} {z : Nat} (E : zEnv tys) : zCodeOk l D vwCl tys o z (zXX o z) zTs zprog mX2_init := by
  intro p e R s m args below meth c0 Q ws0 hbc hbs C pc sem h
  replace hbc : R.cells = 37 := hbc
  replace hbs : R.slots = 276 := hbs
  replace C : zCx p R s m args meth c0 D vwCl tys z (zXX o z) zTs RX2 cX2_init 2 "<init>" := C
  refine zRows_get (P := fun pc sem => zOp p l e R s m args below meth c0 Q D vwCl tys o z (zXX o z) zTs zprog ws0 2 cX2_init none pc sem) (c := kX2_init) ?_ h
  unfold kX2_init
  exact (zrs_c (zr_s (zq_aload_n C dX2_init_0 rfl)
    (zr_s (zk_objInit C dX2_init_1 zw336 zw29 zw30)
    (zr_n (zr_n (zr_s (zq_aload_n C dX2_init_4 rfl)
    (zr_s (zq_bipush (n := .ofNat 12) C dX2_init_5 (by decide) (by decide))
    (zr_n (zr_s (zk_newq (ci := 5) (Cn := "RockingHorse$State") C hbc hbs dX2_init_7 zw337 (fun U H h => zxA h) rfl E.2.2.2.2)
    (zr_n (zr_n (zr_s (zq_putF (k := 0) C dX2_init_10 (show vwCl[2]? = some (RX2, TX2, 3) from rfl) zinX2 tyX2 tyX2_ok nmX2 (by decide) zw340 rfl rfl rfl (ty := (.array (.object "RockingHorse$State"))) (by decide +kernel) rfl)
    (zr_n (zr_n (zr_s (zq_iconst (n := .ofNat 0) C dX2_init_13 (by decide))
    (zr_s (zq_istoreN_n C dX2_init_14 rfl (by decide))
    (zr_s (zq_iload_n C dX2_init_15 rfl)
    zr_0))))))))))))))))
  (zrs_c (zr_s (zq_bipush (n := .ofNat 12) C dX2_init_16 (by decide) (by decide))
    (zr_n (zr_s (zqr_ge C dX2_init_18 (by decide))
    (zr_n (zr_n (zr_s (zq_aload_n C dX2_init_21 rfl)
    (zr_s (zq_get (k := 0) C dX2_init_22 (show vwCl[2]? = some (RX2, TX2, 3) from rfl) zinX2 (by decide) zw340)
    (zr_n (zr_n (zr_s (zq_iload_n C dX2_init_25 rfl)
    (zr_s (zk_new C hbc hbs dX2_init_26 (show vwCl[5]? = some (RX5, TX5, 6) from rfl) zinX5 tyX5 tyX5_ok zw337 zw293 zw11 zdfX5 (fun ad => zfrX5 o ad))
    (zr_n (zr_n (zr_s (zk_dup C dX2_init_29)
    (zr_s (zk_callIN (n := 0) C zXX_ok zTs_good hbc hbs (show zget zprog 87 = some mX5_init from rfl) rfl rfl rfl zw296 (fun U H h => zn29 h) zw295 zw11 rfl (by decide +kernel) dX2_init_30)
    (zr_n zr_0))))))))))))))))
  (zrs_c (zr_n (zr_s (zk_aast C dX2_init_33 (fun _ _ => trivial))
    (zr_s (zk_inc (n := .ofNat 1) C dX2_init_34 (by decide) (by decide))
    (zr_n (zr_n (zr_s (zk_goto C dX2_init_37 (by decide))
    (zr_n (zr_n (zr_s (zk_ret0 C hbc hbs rfl dX2_init_40)
    zr_0)))))))))
  zrs_0)))
set_option maxRecDepth 100000 in
set_option maxHeartbeats 4000000 in
theorem okX2_pop {l : Launch} {D : va_G} {tys : List (ClassId × FieldType)} {o : zO} {z : Nat} (E : zEnv tys) : zCodeOk l D vwCl tys o z (zXX o z) zTs zprog mX2_pop := by
  intro p e R s m args below meth c0 Q ws0 hbc hbs C pc sem h
  replace hbc : R.cells = 0 := hbc
  replace hbs : R.slots = 0 := hbs
  replace C : zCx p R s m args meth c0 D vwCl tys z (zXX o z) zTs RX2 cX2_pop 2 "pop" := C
  refine zRows_get (P := fun pc sem => zOp p l e R s m args below meth c0 Q D vwCl tys o z (zXX o z) zTs zprog ws0 2 cX2_pop (some .int) pc sem) (c := kX2_pop) ?_ h
  unfold kX2_pop
  exact (zrs_c (zr_s (zq_aload_n C dX2_pop_0 rfl)
    (zr_s (zq_get (k := 2) C dX2_pop_1 (show vwCl[2]? = some (RX2, TX2, 3) from rfl) zinX2 (by decide) zw342)
    (zr_n (zr_n (zr_s (zqr_if_ne C dX2_pop_4 (by decide))
    (zr_n (zr_n (zr_s (zq_iconst (n := .negSucc 0) C dX2_pop_7 (by decide))
    (zr_s (zk_ret1 (ty := .int) C hbc hbs rfl rfl (Or.inl ⟨dX2_pop_8, by decide⟩))
    (zr_s (zq_aload_n C dX2_pop_9 rfl)
    (zr_s (zq_aload_n C dX2_pop_10 rfl)
    (zr_s (zq_get (k := 1) C dX2_pop_11 (show vwCl[2]? = some (RX2, TX2, 3) from rfl) zinX2 (by decide) zw341)
    (zr_n (zr_n (zr_s (zq_bipush (n := .ofNat 12) C dX2_pop_14 (by decide) (by decide))
    (zr_n zr_0))))))))))))))))
  (zrs_c (zr_s (zk_add C dX2_pop_16)
    (zr_s (zq_iconst (n := .ofNat 1) C dX2_pop_17 (by decide))
    (zr_s (zk_sub C dX2_pop_18)
    (zr_s (zq_bipush (n := .ofNat 12) C dX2_pop_19 (by decide) (by decide))
    (zr_n (zr_s (zq_irem C dX2_pop_21)
    (zr_s (zq_put (k := 1) C dX2_pop_22 (show vwCl[2]? = some (RX2, TX2, 3) from rfl) zinX2 tyX2 tyX2_ok nmX2 (by decide) zw341 rfl (ty := .int) (by decide +kernel) rfl)
    (zr_n (zr_n (zr_s (zq_aload_n C dX2_pop_25 rfl)
    (zr_s (zk_dup C dX2_pop_26)
    (zr_s (zq_get (k := 2) C dX2_pop_27 (show vwCl[2]? = some (RX2, TX2, 3) from rfl) zinX2 (by decide) zw342)
    (zr_n (zr_n (zr_s (zq_iconst (n := .ofNat 1) C dX2_pop_30 (by decide))
    (zr_s (zk_sub C dX2_pop_31)
    zr_0))))))))))))))))
  (zrs_c (zr_s (zq_put (k := 2) C dX2_pop_32 (show vwCl[2]? = some (RX2, TX2, 3) from rfl) zinX2 tyX2 tyX2_ok nmX2 (by decide) zw342 rfl (ty := .int) (by decide +kernel) rfl)
    (zr_n (zr_n (zr_s (zq_aload_n C dX2_pop_35 rfl)
    (zr_s (zq_aload_n C dX2_pop_36 rfl)
    (zr_s (zq_get (k := 0) C dX2_pop_37 (show vwCl[2]? = some (RX2, TX2, 3) from rfl) zinX2 (by decide) zw340)
    (zr_n (zr_n (zr_s (zq_aload_n C dX2_pop_40 rfl)
    (zr_s (zq_get (k := 1) C dX2_pop_41 (show vwCl[2]? = some (RX2, TX2, 3) from rfl) zinX2 (by decide) zw341)
    (zr_n (zr_n (zr_s (zk_aald C dX2_pop_44)
    (zr_s (zk_callVN (n := 1) C zXX_ok zTs_good hbc hbs (show zget zprog 85 = some mX5_copy from rfl) rfl rfl (show vwCl[5]? = some (RX5, TX5, 6) from rfl) zw614 (fun U H h => zn54 h) zw613 zs30 zw11 (by decide +kernel) dX2_pop_45)
    (zr_n (zr_n zr_0))))))))))))))))
  (zrs_c (zr_s (zq_aload_n C dX2_pop_48 rfl)
    (zr_s (zq_get (k := 2) C dX2_pop_49 (show vwCl[2]? = some (RX2, TX2, 3) from rfl) zinX2 (by decide) zw342)
    (zr_n (zr_n (zr_s (zk_ret1 (ty := .int) C hbc hbs rfl rfl (Or.inl ⟨dX2_pop_52, by decide⟩))
    zr_0)))))
  zrs_0))))
set_option maxRecDepth 100000 in
set_option maxHeartbeats 4000000 in
theorem okX2_push {l : Launch} {D : va_G} {tys : List (ClassId × FieldType)} {o : zO} {z : Nat} (E : zEnv tys) : zCodeOk l D vwCl tys o z (zXX o z) zTs zprog mX2_push := by
  intro p e R s m args below meth c0 Q ws0 hbc hbs C pc sem h
  replace hbc : R.cells = 0 := hbc
  replace hbs : R.slots = 0 := hbs
  replace C : zCx p R s m args meth c0 D vwCl tys z (zXX o z) zTs RX2 cX2_push 2 "push" := C
  refine zRows_get (P := fun pc sem => zOp p l e R s m args below meth c0 Q D vwCl tys o z (zXX o z) zTs zprog ws0 2 cX2_push none pc sem) (c := kX2_push) ?_ h
  unfold kX2_push
  exact (zrs_c (zr_s (zq_aload_n C dX2_push_0 rfl)
    (zr_s (zq_get (k := 0) C dX2_push_1 (show vwCl[2]? = some (RX2, TX2, 3) from rfl) zinX2 (by decide) zw340)
    (zr_n (zr_n (zr_s (zq_aload_n C dX2_push_4 rfl)
    (zr_s (zq_get (k := 1) C dX2_push_5 (show vwCl[2]? = some (RX2, TX2, 3) from rfl) zinX2 (by decide) zw341)
    (zr_n (zr_n (zr_s (zk_aald C dX2_push_8)
    (zr_s (zq_aload_n C dX2_push_9 rfl)
    (zr_s (zk_callVN (n := 1) C zXX_ok zTs_good hbc hbs (show zget zprog 85 = some mX5_copy from rfl) rfl rfl (show vwCl[5]? = some (RX5, TX5, 6) from rfl) zw614 (fun U H h => zn54 h) zw613 zs30 zw11 (by decide +kernel) dX2_push_10)
    (zr_n (zr_n (zr_s (zq_aload_n C dX2_push_13 rfl)
    (zr_s (zq_aload_n C dX2_push_14 rfl)
    (zr_s (zq_get (k := 1) C dX2_push_15 (show vwCl[2]? = some (RX2, TX2, 3) from rfl) zinX2 (by decide) zw341)
    zr_0))))))))))))))))
  (zrs_c (zr_n (zr_n (zr_s (zq_iconst (n := .ofNat 1) C dX2_push_18 (by decide))
    (zr_s (zk_add C dX2_push_19)
    (zr_s (zq_bipush (n := .ofNat 12) C dX2_push_20 (by decide) (by decide))
    (zr_n (zr_s (zq_irem C dX2_push_22)
    (zr_s (zq_put (k := 1) C dX2_push_23 (show vwCl[2]? = some (RX2, TX2, 3) from rfl) zinX2 tyX2 tyX2_ok nmX2 (by decide) zw341 rfl (ty := .int) (by decide +kernel) rfl)
    (zr_n (zr_n (zr_s (zq_aload_n C dX2_push_26 rfl)
    (zr_s (zq_aload_n C dX2_push_27 rfl)
    (zr_s (zq_get (k := 2) C dX2_push_28 (show vwCl[2]? = some (RX2, TX2, 3) from rfl) zinX2 (by decide) zw342)
    (zr_n (zr_n (zr_s (zq_iconst (n := .ofNat 1) C dX2_push_31 (by decide))
    zr_0))))))))))))))))
  (zrs_c (zr_s (zk_add C dX2_push_32)
    (zr_s (zq_bipush (n := .ofNat 12) C dX2_push_33 (by decide) (by decide))
    (zr_n (zr_s (zq_min C hbc hbs dX2_push_35 zw627 zw149 zw9 zw150)
    (zr_n (zr_n (zr_s (zq_put (k := 2) C dX2_push_38 (show vwCl[2]? = some (RX2, TX2, 3) from rfl) zinX2 tyX2 tyX2_ok nmX2 (by decide) zw342 rfl (ty := .int) (by decide +kernel) rfl)
    (zr_n (zr_n (zr_s (zk_ret0 C hbc hbs rfl dX2_push_41)
    zr_0))))))))))
  zrs_0)))
set_option maxRecDepth 100000 in
set_option maxHeartbeats 4000000 in
theorem okX3_await {l : Launch} {D : va_G} {tys : List (ClassId × FieldType)} {o : zO} {z : Nat} (E : zEnv tys) : zCodeOk l D vwCl tys o z (zXX o z) zTs zprog mX3_await := by
  intro p e R s m args below meth c0 Q ws0 hbc hbs C pc sem h
  replace hbc : R.cells = 0 := hbc
  replace hbs : R.slots = 0 := hbs
  replace C : zCx p R s m args meth c0 D vwCl tys z (zXX o z) zTs RX3 cX3_await 2 "await" := C
  refine zRows_get (P := fun pc sem => zOp p l e R s m args below meth c0 Q D vwCl tys o z (zXX o z) zTs zprog ws0 2 cX3_await none pc sem) (c := kX3_await) ?_ h
  unfold kX3_await
  exact (zrs_c (zr_s (zq_aload_n C dX3_await_0 rfl)
    (zr_s (zq_get (k := 5) C dX3_await_1 (show vwCl[3]? = some (RX3, TX3, 9) from rfl) zinX3 (by decide) zw221)
    (zr_n (zr_n (zr_s (zq_aload_n C dX3_await_4 rfl)
    (zr_s (zq_get (k := 1) C dX3_await_5 (show vwCl[3]? = some (RX3, TX3, 9) from rfl) zinX3 (by decide) zw217)
    (zr_n (zr_n (zr_s (zk_len C dX3_await_8)
    (zr_s (zqr_ge C dX3_await_9 (by decide))
    (zr_n (zr_n (zr_s (zq_aload_n C dX3_await_12 rfl)
    (zr_s (zq_get (k := 1) C dX3_await_13 (show vwCl[3]? = some (RX3, TX3, 9) from rfl) zinX3 (by decide) zw217)
    (zr_n (zr_n zr_0))))))))))))))))
  (zrs_c (zr_s (zq_aload_n C dX3_await_16 rfl)
    (zr_s (zq_get (k := 5) C dX3_await_17 (show vwCl[3]? = some (RX3, TX3, 9) from rfl) zinX3 (by decide) zw221)
    (zr_n (zr_n (zr_s (zq_iload_n C dX3_await_20 rfl)
    (zr_s (zk_iast C dX3_await_21)
    (zr_s (zq_aload_n C dX3_await_22 rfl)
    (zr_s (zk_dup C dX3_await_23)
    (zr_s (zq_get (k := 5) C dX3_await_24 (show vwCl[3]? = some (RX3, TX3, 9) from rfl) zinX3 (by decide) zw221)
    (zr_n (zr_n (zr_s (zq_iconst (n := .ofNat 1) C dX3_await_27 (by decide))
    (zr_s (zk_add C dX3_await_28)
    (zr_s (zq_put (k := 5) C dX3_await_29 (show vwCl[3]? = some (RX3, TX3, 9) from rfl) zinX3 tyX3 tyX3_ok nmX3 (by decide) zw221 rfl (ty := .int) (by decide +kernel) rfl)
    (zr_n (zr_n zr_0))))))))))))))))
  (zrs_c (zr_s (zk_ret0 C hbc hbs rfl dX3_await_32)
    zr_0)
  zrs_0)))
set_option maxRecDepth 100000 in
set_option maxHeartbeats 4000000 in
theorem okX3_begin {l : Launch} {D : va_G} {tys : List (ClassId × FieldType)} {o : zO} {z : Nat} (E : zEnv tys) : zCodeOk l D vwCl tys o z (zXX o z) zTs zprog mX3_begin := by
  intro p e R s m args below meth c0 Q ws0 hbc hbs C pc sem h
  replace hbc : R.cells = 0 := hbc
  replace hbs : R.slots = 0 := hbs
  replace C : zCx p R s m args meth c0 D vwCl tys z (zXX o z) zTs RX3 cX3_begin 1 "begin" := C
  refine zRows_get (P := fun pc sem => zOp p l e R s m args below meth c0 Q D vwCl tys o z (zXX o z) zTs zprog ws0 1 cX3_begin none pc sem) (c := kX3_begin) ?_ h
  unfold kX3_begin
  exact (zrs_c (zr_s (zq_aload_n C dX3_begin_0 rfl)
    (zr_s (zq_iconst (n := .ofNat 0) C dX3_begin_1 (by decide))
    (zr_s (zq_put (k := 4) C dX3_begin_2 (show vwCl[3]? = some (RX3, TX3, 9) from rfl) zinX3 tyX3 tyX3_ok nmX3 (by decide) zw220 rfl (ty := .int) (by decide +kernel) rfl)
    (zr_n (zr_n (zr_s (zq_aload_n C dX3_begin_5 rfl)
    (zr_s (zq_iconst (n := .ofNat 0) C dX3_begin_6 (by decide))
    (zr_s (zq_put (k := 5) C dX3_begin_7 (show vwCl[3]? = some (RX3, TX3, 9) from rfl) zinX3 tyX3 tyX3_ok nmX3 (by decide) zw221 rfl (ty := .int) (by decide +kernel) rfl)
    (zr_n (zr_n (zr_s (zq_aload_n C dX3_begin_10 rfl)
    (zr_s (zq_iconst (n := .ofNat 0) C dX3_begin_11 (by decide))
    (zr_s (zq_put (k := 6) C dX3_begin_12 (show vwCl[3]? = some (RX3, TX3, 9) from rfl) zinX3 tyX3 tyX3_ok nmX3 (by decide) zw222 rfl (ty := .int) (by decide +kernel) rfl)
    (zr_n (zr_n (zr_s (zq_aload_n C dX3_begin_15 rfl)
    zr_0))))))))))))))))
  (zrs_c (zr_s (zq_iconst (n := .ofNat 0) C dX3_begin_16 (by decide))
    (zr_s (zq_put (k := 7) C dX3_begin_17 (show vwCl[3]? = some (RX3, TX3, 9) from rfl) zinX3 tyX3 tyX3_ok nmX3 (by decide) zw223 rfl (ty := .int) (by decide +kernel) rfl)
    (zr_n (zr_n (zr_s (zq_aload_n C dX3_begin_20 rfl)
    (zr_s (zq_iconst (n := .ofNat 1) C dX3_begin_21 (by decide))
    (zr_s (zq_put (k := 8) C dX3_begin_22 (show vwCl[3]? = some (RX3, TX3, 9) from rfl) zinX3 tyX3 tyX3_ok nmX3 (by decide) zw224 rfl (ty := .boolean) (by decide +kernel) rfl)
    (zr_n (zr_n (zr_s (zq_aload_n C dX3_begin_25 rfl)
    (zr_s (zq_get (k := 3) C dX3_begin_26 (show vwCl[3]? = some (RX3, TX3, 9) from rfl) zinX3 (by decide) zw219)
    (zr_n (zr_n (zr_s (zq_iconst (n := .ofNat 0) C dX3_begin_29 (by decide))
    (zr_s (zq_iconst (n := .ofNat 0) C dX3_begin_30 (by decide))
    (zr_s (zk_bast C dX3_begin_31)
    zr_0))))))))))))))))
  (zrs_c (zr_s (zk_ret0 C hbc hbs rfl dX3_begin_32)
    zr_0)
  zrs_0)))
set_option maxRecDepth 100000 in
set_option maxHeartbeats 4000000 in
theorem okX3_binding {l : Launch} {D : va_G} {tys : List (ClassId × FieldType)} {o : zO} {z : Nat} (E : zEnv tys) : zCodeOk l D vwCl tys o z (zXX o z) zTs zprog mX3_binding := by
  intro p e R s m args below meth c0 Q ws0 hbc hbs C pc sem h
  replace hbc : R.cells = 0 := hbc
  replace hbs : R.slots = 0 := hbs
  replace C : zCx p R s m args meth c0 D vwCl tys z (zXX o z) zTs RX3 cX3_binding 1 "binding" := C
  refine zRows_get (P := fun pc sem => zOp p l e R s m args below meth c0 Q D vwCl tys o z (zXX o z) zTs zprog ws0 1 cX3_binding (some .int) pc sem) (c := kX3_binding) ?_ h
  unfold kX3_binding
  exact (zrs_c (zr_s (zq_iload_n C dX3_binding_0 rfl)
    (zr_s (zk_lsw C dX3_binding_1 (by decide) (by decide) (fun v => zswL (pc := 1) (ps := [(.ofNat 42, .ofNat 79), (.ofNat 43, .ofNat 77), (.ofNat 45, .ofNat 77), (.ofNat 47, .ofNat 79), (.ofNat 60, .ofNat 75), (.ofNat 61, .ofNat 75), (.ofNat 62, .ofNat 75), (.ofNat 256, .ofNat 81)]) (by decide) (by decide) v))
    (zr_n (zr_n (zr_n (zr_n (zr_n (zr_n (zr_n (zr_n (zr_n (zr_n (zr_n (zr_n (zr_n (zr_n zr_0))))))))))))))))
  (zrs_c (zr_n (zr_n (zr_n (zr_n (zr_n (zr_n (zr_n (zr_n (zr_n (zr_n (zr_n (zr_n (zr_n (zr_n (zr_n (zr_n zr_0))))))))))))))))
  (zrs_c (zr_n (zr_n (zr_n (zr_n (zr_n (zr_n (zr_n (zr_n (zr_n (zr_n (zr_n (zr_n (zr_n (zr_n (zr_n (zr_n zr_0))))))))))))))))
  (zrs_c (zr_n (zr_n (zr_n (zr_n (zr_n (zr_n (zr_n (zr_n (zr_n (zr_n (zr_n (zr_n (zr_n (zr_n (zr_n (zr_n zr_0))))))))))))))))
  (zrs_c (zr_n (zr_n (zr_n (zr_n (zr_n (zr_n (zr_n (zr_n (zr_n (zr_n (zr_n (zr_n (zr_s (zq_iconst (n := .ofNat 1) C dX3_binding_76 (by decide))
    (zr_s (zk_ret1 (ty := .int) C hbc hbs rfl rfl (Or.inl ⟨dX3_binding_77, by decide⟩))
    (zr_s (zq_iconst (n := .ofNat 2) C dX3_binding_78 (by decide))
    (zr_s (zk_ret1 (ty := .int) C hbc hbs rfl rfl (Or.inl ⟨dX3_binding_79, by decide⟩))
    zr_0))))))))))))))))
  (zrs_c (zr_s (zq_iconst (n := .ofNat 3) C dX3_binding_80 (by decide))
    (zr_s (zk_ret1 (ty := .int) C hbc hbs rfl rfl (Or.inl ⟨dX3_binding_81, by decide⟩))
    (zr_s (zq_iconst (n := .ofNat 4) C dX3_binding_82 (by decide))
    (zr_s (zk_ret1 (ty := .int) C hbc hbs rfl rfl (Or.inl ⟨dX3_binding_83, by decide⟩))
    (zr_s (zq_iconst (n := .ofNat 0) C dX3_binding_84 (by decide))
    (zr_s (zk_ret1 (ty := .int) C hbc hbs rfl rfl (Or.inl ⟨dX3_binding_85, by decide⟩))
    zr_0))))))
  zrs_0))))))
set_option maxRecDepth 100000 in
set_option maxHeartbeats 4000000 in
theorem okX3_closeBracket {l : Launch} {D : va_G} {tys : List (ClassId × FieldType)} {o : zO} {z : Nat} (E : zEnv tys) : zCodeOk l D vwCl tys o z (zXX o z) zTs zprog mX3_closeBracket := by
  intro p e R s m args below meth c0 Q ws0 hbc hbs C pc sem h
  replace hbc : R.cells = 0 := hbc
  replace hbs : R.slots = 0 := hbs
  replace C : zCx p R s m args meth c0 D vwCl tys z (zXX o z) zTs RX3 cX3_closeBracket 1 "closeBracket" := C
  refine zRows_get (P := fun pc sem => zOp p l e R s m args below meth c0 Q D vwCl tys o z (zXX o z) zTs zprog ws0 1 cX3_closeBracket (some .boolean) pc sem) (c := kX3_closeBracket) ?_ h
  unfold kX3_closeBracket
  exact (zrs_c (zr_s (zq_aload_n C dX3_closeBracket_0 rfl)
    (zr_s (zq_get (k := 6) C dX3_closeBracket_1 (show vwCl[3]? = some (RX3, TX3, 9) from rfl) zinX3 (by decide) zw222)
    (zr_n (zr_n (zr_s (zqr_if_ne C dX3_closeBracket_4 (by decide))
    (zr_n (zr_n (zr_s (zq_iconst (n := .ofNat 0) C dX3_closeBracket_7 (by decide))
    (zr_s (zk_ret1 (ty := .boolean) C hbc hbs rfl rfl (Or.inl ⟨dX3_closeBracket_8, by decide⟩))
    (zr_s (zq_aload_n C dX3_closeBracket_9 rfl)
    (zr_s (zq_iconst (n := .ofNat 1) C dX3_closeBracket_10 (by decide))
    (zr_s (zk_callV (n := 1) C zXX_ok zTs_good hbc hbs (show zget zprog 54 = some mX3_reckonDownTo from rfl) rfl rfl (show vwCl[3]? = some (RX3, TX3, 9) from rfl) zw211 zw208 zw210 zs9 zw4 (by decide +kernel) dX3_closeBracket_11)
    (zr_n (zr_n (zr_s (zq_aload_n C dX3_closeBracket_14 rfl)
    (zr_s (zk_dup C dX3_closeBracket_15)
    zr_0))))))))))))))))
  (zrs_c (zr_s (zq_get (k := 6) C dX3_closeBracket_16 (show vwCl[3]? = some (RX3, TX3, 9) from rfl) zinX3 (by decide) zw222)
    (zr_n (zr_n (zr_s (zq_iconst (n := .ofNat 1) C dX3_closeBracket_19 (by decide))
    (zr_s (zk_sub C dX3_closeBracket_20)
    (zr_s (zq_put (k := 6) C dX3_closeBracket_21 (show vwCl[3]? = some (RX3, TX3, 9) from rfl) zinX3 tyX3 tyX3_ok nmX3 (by decide) zw222 rfl (ty := .int) (by decide +kernel) rfl)
    (zr_n (zr_n (zr_s (zq_aload_n C dX3_closeBracket_24 rfl)
    (zr_s (zq_iconst (n := .ofNat 0) C dX3_closeBracket_25 (by decide))
    (zr_s (zq_aload_n C dX3_closeBracket_26 rfl)
    (zr_s (zq_get (k := 5) C dX3_closeBracket_27 (show vwCl[3]? = some (RX3, TX3, 9) from rfl) zinX3 (by decide) zw221)
    (zr_n (zr_n (zr_s (zq_iconst (n := .ofNat 1) C dX3_closeBracket_30 (by decide))
    (zr_s (zk_sub C dX3_closeBracket_31)
    zr_0))))))))))))))))
  (zrs_c (zr_s (zq_max C hbc hbs dX3_closeBracket_32 zw215 zw146 zw9 zw147)
    (zr_n (zr_n (zr_s (zq_put (k := 5) C dX3_closeBracket_35 (show vwCl[3]? = some (RX3, TX3, 9) from rfl) zinX3 tyX3 tyX3_ok nmX3 (by decide) zw221 rfl (ty := .int) (by decide +kernel) rfl)
    (zr_n (zr_n (zr_s (zq_iconst (n := .ofNat 1) C dX3_closeBracket_38 (by decide))
    (zr_s (zk_ret1 (ty := .boolean) C hbc hbs rfl rfl (Or.inl ⟨dX3_closeBracket_39, by decide⟩))
    zr_0))))))))
  zrs_0)))
set_option maxRecDepth 100000 in
set_option maxHeartbeats 4000000 in
theorem okX3_emit {l : Launch} {D : va_G} {tys : List (ClassId × FieldType)} {o : zO} {z : Nat} (E : zEnv tys) : zCodeOk l D vwCl tys o z (zXX o z) zTs zprog mX3_emit := by
  intro p e R s m args below meth c0 Q ws0 hbc hbs C pc sem h
  replace hbc : R.cells = 0 := hbc
  replace hbs : R.slots = 0 := hbs
  replace C : zCx p R s m args meth c0 D vwCl tys z (zXX o z) zTs RX3 cX3_emit 2 "emit" := C
  refine zRows_get (P := fun pc sem => zOp p l e R s m args below meth c0 Q D vwCl tys o z (zXX o z) zTs zprog ws0 2 cX3_emit none pc sem) (c := kX3_emit) ?_ h
  unfold kX3_emit
  exact (zrs_c (zr_s (zq_aload_n C dX3_emit_0 rfl)
    (zr_s (zq_get (k := 4) C dX3_emit_1 (show vwCl[3]? = some (RX3, TX3, 9) from rfl) zinX3 (by decide) zw220)
    (zr_n (zr_n (zr_s (zq_aload_n C dX3_emit_4 rfl)
    (zr_s (zq_get (k := 0) C dX3_emit_5 (show vwCl[3]? = some (RX3, TX3, 9) from rfl) zinX3 (by decide) zw216)
    (zr_n (zr_n (zr_s (zk_len C dX3_emit_8)
    (zr_s (zqr_ge C dX3_emit_9 (by decide))
    (zr_n (zr_n (zr_s (zq_aload_n C dX3_emit_12 rfl)
    (zr_s (zq_get (k := 0) C dX3_emit_13 (show vwCl[3]? = some (RX3, TX3, 9) from rfl) zinX3 (by decide) zw216)
    (zr_n (zr_n zr_0))))))))))))))))
  (zrs_c (zr_s (zq_aload_n C dX3_emit_16 rfl)
    (zr_s (zq_get (k := 4) C dX3_emit_17 (show vwCl[3]? = some (RX3, TX3, 9) from rfl) zinX3 (by decide) zw220)
    (zr_n (zr_n (zr_s (zq_iload_n C dX3_emit_20 rfl)
    (zr_s (zk_iast C dX3_emit_21)
    (zr_s (zq_aload_n C dX3_emit_22 rfl)
    (zr_s (zk_dup C dX3_emit_23)
    (zr_s (zq_get (k := 4) C dX3_emit_24 (show vwCl[3]? = some (RX3, TX3, 9) from rfl) zinX3 (by decide) zw220)
    (zr_n (zr_n (zr_s (zq_iconst (n := .ofNat 1) C dX3_emit_27 (by decide))
    (zr_s (zk_add C dX3_emit_28)
    (zr_s (zq_put (k := 4) C dX3_emit_29 (show vwCl[3]? = some (RX3, TX3, 9) from rfl) zinX3 tyX3 tyX3_ok nmX3 (by decide) zw220 rfl (ty := .int) (by decide +kernel) rfl)
    (zr_n (zr_n zr_0))))))))))))))))
  (zrs_c (zr_s (zk_ret0 C hbc hbs rfl dX3_emit_32)
    zr_0)
  zrs_0)))
set_option maxRecDepth 100000 in
set_option maxHeartbeats 4000000 in
theorem okX3_init {l : Launch} {D : va_G} {tys : List (ClassId × FieldType)} {o : zO} {z : Nat} (E : zEnv tys) : zCodeOk l D vwCl tys o z (zXX o z) zTs zprog mX3_init := by
  intro p e R s m args below meth c0 Q ws0 hbc hbs C pc sem h
  replace hbc : R.cells = 4 := hbc
  replace hbs : R.slots = 125 := hbs
  replace C : zCx p R s m args meth c0 D vwCl tys z (zXX o z) zTs RX3 cX3_init 1 "<init>" := C
  refine zRows_get (P := fun pc sem => zOp p l e R s m args below meth c0 Q D vwCl tys o z (zXX o z) zTs zprog ws0 1 cX3_init none pc sem) (c := kX3_init) ?_ h
  unfold kX3_init
  exact (zrs_c (zr_s (zq_aload_n C dX3_init_0 rfl)
    (zr_s (zk_objInit C dX3_init_1 zw59 zw29 zw30)
    (zr_n (zr_n (zr_s (zq_aload_n C dX3_init_4 rfl)
    (zr_s (zq_bipush (n := .ofNat 40) C dX3_init_5 (by decide) (by decide))
    (zr_n (zr_s (zq_newI C hbc hbs dX3_init_7 zw47 E.1)
    (zr_n (zr_s (zq_putF (k := 0) C dX3_init_9 (show vwCl[3]? = some (RX3, TX3, 9) from rfl) zinX3 tyX3 tyX3_ok nmX3 (by decide) zw216 rfl rfl rfl (ty := (.array .int)) (by decide +kernel) rfl)
    (zr_n (zr_n (zr_s (zq_aload_n C dX3_init_12 rfl)
    (zr_s (zq_bipush (n := .ofNat 40) C dX3_init_13 (by decide) (by decide))
    (zr_n (zr_s (zq_newI C hbc hbs dX3_init_15 zw47 E.1)
    zr_0))))))))))))))))
  (zrs_c (zr_n (zr_s (zq_putF (k := 1) C dX3_init_17 (show vwCl[3]? = some (RX3, TX3, 9) from rfl) zinX3 tyX3 tyX3_ok nmX3 (by decide) zw217 rfl rfl rfl (ty := (.array .int)) (by decide +kernel) rfl)
    (zr_n (zr_n (zr_s (zq_aload_n C dX3_init_20 rfl)
    (zr_s (zq_bipush (n := .ofNat 40) C dX3_init_21 (by decide) (by decide))
    (zr_n (zr_s (zq_newI C hbc hbs dX3_init_23 zw47 E.1)
    (zr_n (zr_s (zq_putF (k := 2) C dX3_init_25 (show vwCl[3]? = some (RX3, TX3, 9) from rfl) zinX3 tyX3 tyX3_ok nmX3 (by decide) zw218 rfl rfl rfl (ty := (.array .int)) (by decide +kernel) rfl)
    (zr_n (zr_n (zr_s (zq_aload_n C dX3_init_28 rfl)
    (zr_s (zq_iconst (n := .ofNat 5) C dX3_init_29 (by decide))
    (zr_s (zq_newZ C hbc hbs dX3_init_30 zw244 E.2.2.1)
    (zr_n zr_0))))))))))))))))
  (zrs_c (zr_s (zq_putF (k := 3) C dX3_init_32 (show vwCl[3]? = some (RX3, TX3, 9) from rfl) zinX3 tyX3 tyX3_ok nmX3 (by decide) zw219 rfl rfl rfl (ty := (.array .boolean)) (by decide +kernel) rfl)
    (zr_n (zr_n (zr_s (zq_aload_n C dX3_init_35 rfl)
    (zr_s (zk_callV (n := 0) C zXX_ok zTs_good hbc hbs (show zget zprog 52 = some mX3_readFirst from rfl) rfl rfl (show vwCl[3]? = some (RX3, TX3, 9) from rfl) zw63 zw60 zw62 zs0 zw4 (by decide +kernel) dX3_init_36)
    (zr_n (zr_n (zr_s (zk_ret0 C hbc hbs rfl dX3_init_39)
    zr_0))))))))
  zrs_0)))
set_option maxRecDepth 100000 in
set_option maxHeartbeats 4000000 in
theorem okX3_openBracket {l : Launch} {D : va_G} {tys : List (ClassId × FieldType)} {o : zO} {z : Nat} (E : zEnv tys) : zCodeOk l D vwCl tys o z (zXX o z) zTs zprog mX3_openBracket := by
  intro p e R s m args below meth c0 Q ws0 hbc hbs C pc sem h
  replace hbc : R.cells = 0 := hbc
  replace hbs : R.slots = 0 := hbs
  replace C : zCx p R s m args meth c0 D vwCl tys z (zXX o z) zTs RX3 cX3_openBracket 1 "openBracket" := C
  refine zRows_get (P := fun pc sem => zOp p l e R s m args below meth c0 Q D vwCl tys o z (zXX o z) zTs zprog ws0 1 cX3_openBracket (some .boolean) pc sem) (c := kX3_openBracket) ?_ h
  unfold kX3_openBracket
  exact (zrs_c (zr_s (zq_aload_n C dX3_openBracket_0 rfl)
    (zr_s (zq_get (k := 6) C dX3_openBracket_1 (show vwCl[3]? = some (RX3, TX3, 9) from rfl) zinX3 (by decide) zw222)
    (zr_n (zr_n (zr_s (zq_iconst (n := .ofNat 4) C dX3_openBracket_4 (by decide))
    (zr_s (zqr_lt C dX3_openBracket_5 (by decide))
    (zr_n (zr_n (zr_s (zq_iconst (n := .ofNat 0) C dX3_openBracket_8 (by decide))
    (zr_s (zk_ret1 (ty := .boolean) C hbc hbs rfl rfl (Or.inl ⟨dX3_openBracket_9, by decide⟩))
    (zr_s (zq_aload_n C dX3_openBracket_10 rfl)
    (zr_s (zk_dup C dX3_openBracket_11)
    (zr_s (zq_get (k := 6) C dX3_openBracket_12 (show vwCl[3]? = some (RX3, TX3, 9) from rfl) zinX3 (by decide) zw222)
    (zr_n (zr_n (zr_s (zq_iconst (n := .ofNat 1) C dX3_openBracket_15 (by decide))
    zr_0))))))))))))))))
  (zrs_c (zr_s (zk_add C dX3_openBracket_16)
    (zr_s (zq_put (k := 6) C dX3_openBracket_17 (show vwCl[3]? = some (RX3, TX3, 9) from rfl) zinX3 tyX3 tyX3_ok nmX3 (by decide) zw222 rfl (ty := .int) (by decide +kernel) rfl)
    (zr_n (zr_n (zr_s (zq_aload_n C dX3_openBracket_20 rfl)
    (zr_s (zq_get (k := 3) C dX3_openBracket_21 (show vwCl[3]? = some (RX3, TX3, 9) from rfl) zinX3 (by decide) zw219)
    (zr_n (zr_n (zr_s (zq_aload_n C dX3_openBracket_24 rfl)
    (zr_s (zq_get (k := 6) C dX3_openBracket_25 (show vwCl[3]? = some (RX3, TX3, 9) from rfl) zinX3 (by decide) zw222)
    (zr_n (zr_n (zr_s (zq_iconst (n := .ofNat 0) C dX3_openBracket_28 (by decide))
    (zr_s (zk_bast C dX3_openBracket_29)
    (zr_s (zq_aload_n C dX3_openBracket_30 rfl)
    (zr_s (zq_bipush (n := .ofNat 40) C dX3_openBracket_31 (by decide) (by decide))
    zr_0))))))))))))))))
  (zrs_c (zr_n (zr_s (zk_callV (n := 1) C zXX_ok zTs_good hbc hbs (show zget zprog 43 = some mX3_await from rfl) rfl rfl (show vwCl[3]? = some (RX3, TX3, 9) from rfl) zw124 zw121 zw123 zs3 zw4 (by decide +kernel) dX3_openBracket_33)
    (zr_n (zr_n (zr_s (zq_iconst (n := .ofNat 1) C dX3_openBracket_36 (by decide))
    (zr_s (zk_ret1 (ty := .boolean) C hbc hbs rfl rfl (Or.inl ⟨dX3_openBracket_37, by decide⟩))
    zr_0))))))
  zrs_0)))
set_option maxRecDepth 100000 in
set_option maxHeartbeats 4000000 in
theorem okX3_push {l : Launch} {D : va_G} {tys : List (ClassId × FieldType)} {o : zO} {z : Nat} (E : zEnv tys) : zCodeOk l D vwCl tys o z (zXX o z) zTs zprog mX3_push := by
  intro p e R s m args below meth c0 Q ws0 hbc hbs C pc sem h
  replace hbc : R.cells = 0 := hbc
  replace hbs : R.slots = 0 := hbs
  replace C : zCx p R s m args meth c0 D vwCl tys z (zXX o z) zTs RX3 cX3_push 3 "push" := C
  refine zRows_get (P := fun pc sem => zOp p l e R s m args below meth c0 Q D vwCl tys o z (zXX o z) zTs zprog ws0 3 cX3_push (some .int) pc sem) (c := kX3_push) ?_ h
  unfold kX3_push
  exact (zrs_c (zr_s (zq_iload_n C dX3_push_0 rfl)
    (zr_s (zq_aload_n C dX3_push_1 rfl)
    (zr_s (zq_get (k := 2) C dX3_push_2 (show vwCl[3]? = some (RX3, TX3, 9) from rfl) zinX3 (by decide) zw218)
    (zr_n (zr_n (zr_s (zk_len C dX3_push_5)
    (zr_s (zqr_lt C dX3_push_6 (by decide))
    (zr_n (zr_n (zr_s (zq_iload_n C dX3_push_9 rfl)
    (zr_s (zk_ret1 (ty := .int) C hbc hbs rfl rfl (Or.inl ⟨dX3_push_10, by decide⟩))
    (zr_s (zq_aload_n C dX3_push_11 rfl)
    (zr_s (zq_get (k := 2) C dX3_push_12 (show vwCl[3]? = some (RX3, TX3, 9) from rfl) zinX3 (by decide) zw218)
    (zr_n (zr_n (zr_s (zq_iload_n C dX3_push_15 rfl)
    zr_0))))))))))))))))
  (zrs_c (zr_s (zq_iload_n C dX3_push_16 rfl)
    (zr_s (zk_iast C dX3_push_17)
    (zr_s (zq_iload_n C dX3_push_18 rfl)
    (zr_s (zq_iconst (n := .ofNat 1) C dX3_push_19 (by decide))
    (zr_s (zk_add C dX3_push_20)
    (zr_s (zk_ret1 (ty := .int) C hbc hbs rfl rfl (Or.inl ⟨dX3_push_21, by decide⟩))
    zr_0))))))
  zrs_0))
set_option maxRecDepth 100000 in
set_option maxHeartbeats 4000000 in
theorem okX3_read {l : Launch} {D : va_G} {tys : List (ClassId × FieldType)} {o : zO} {z : Nat} (E : zEnv tys) : zCodeOk l D vwCl tys o z (zXX o z) zTs zprog mX3_read := by
  intro p e R s m args below meth c0 Q ws0 hbc hbs C pc sem h
  replace hbc : R.cells = 0 := hbc
  replace hbs : R.slots = 0 := hbs
  replace C : zCx p R s m args meth c0 D vwCl tys z (zXX o z) zTs RX3 cX3_read 6 "read" := C
  refine zRows_get (P := fun pc sem => zOp p l e R s m args below meth c0 Q D vwCl tys o z (zXX o z) zTs zprog ws0 6 cX3_read (some .int) pc sem) (c := kX3_read) ?_ h
  unfold kX3_read
  exact (zrs_c (zr_s (zq_aload_n C dX3_read_0 rfl)
    (zr_s (zq_getN (k := 1) C dX3_read_1 (show vwCl[6]? = some (RX6, TX6, 2) from rfl) zinX6 (by decide) (fun U H h => zn1 h))
    (zr_n (zr_n (zr_s (zqr_if_ne C dX3_read_4 (by decide))
    (zr_n (zr_n (zr_s (zq_aload_n C dX3_read_7 rfl)
    (zr_s (zk_callV (n := 0) C zXX_ok zTs_good hbc hbs (show zget zprog 52 = some mX3_readFirst from rfl) rfl rfl (show vwCl[3]? = some (RX3, TX3, 9) from rfl) zw63 zw60 zw62 zs0 zw4 (by decide +kernel) dX3_read_8)
    (zr_n (zr_n (zr_s (zq_iconst (n := .negSucc 0) C dX3_read_11 (by decide))
    (zr_s (zk_ret1 (ty := .int) C hbc hbs rfl rfl (Or.inl ⟨dX3_read_12, by decide⟩))
    (zr_s (zq_aload_n C dX3_read_13 rfl)
    (zr_s (zk_callV (n := 0) C zXX_ok zTs_good hbc hbs (show zget zprog 44 = some mX3_begin from rfl) rfl rfl (show vwCl[3]? = some (RX3, TX3, 9) from rfl) zw67 zw64 zw66 zs1 zw4 (by decide +kernel) dX3_read_14)
    (zr_n zr_0))))))))))))))))
  (zrs_c (zr_n (zr_s (zq_aload_n C dX3_read_17 rfl)
    (zr_s (zq_getN (k := 1) C dX3_read_18 (show vwCl[6]? = some (RX6, TX6, 2) from rfl) zinX6 (by decide) (fun U H h => zn1 h))
    (zr_n (zr_n (zr_s (zq_bipush (n := .ofNat 40) C dX3_read_21 (by decide) (by decide))
    (zr_n (zr_s (zq_min C hbc hbs dX3_read_23 zw541 zw149 zw9 zw150)
    (zr_n (zr_n (zr_s (zq_istoreN_n C dX3_read_26 rfl (by decide))
    (zr_s (zq_iconst (n := .ofNat 0) C dX3_read_27 (by decide))
    (zr_s (zq_istoreN_n C dX3_read_28 rfl (by decide))
    (zr_s (zq_iload_n C dX3_read_29 rfl)
    (zr_s (zq_iload_n C dX3_read_30 rfl)
    (zr_s (zqr_ge C dX3_read_31 (by decide))
    zr_0))))))))))))))))
  (zrs_c (zr_n (zr_n (zr_s (zq_aload_n C dX3_read_34 rfl)
    (zr_s (zq_iload_n C dX3_read_35 rfl)
    (zr_s (zk_callVN (n := 1) C zXX_ok zTs_good hbc hbs (show zget zprog 93 = some mX6_at from rfl) rfl rfl (show vwCl[6]? = some (RX6, TX6, 2) from rfl) zw500 (fun U H h => zn45 h) zw499 zs13 zw2 (by decide +kernel) dX3_read_36)
    (zr_n (zr_n (zr_s (zq_istoreN C dX3_read_39 (by decide))
    (zr_n (zr_s (zq_aload_n C dX3_read_41 rfl)
    (zr_s (zq_get (k := 8) C dX3_read_42 (show vwCl[3]? = some (RX3, TX3, 9) from rfl) zinX3 (by decide) zw224)
    (zr_n (zr_n (zr_s (zqr_if_eq C dX3_read_45 (by decide))
    (zr_n (zr_n zr_0))))))))))))))))
  (zrs_c (zr_s (zq_aload_n C dX3_read_48 rfl)
    (zr_s (zq_iload C dX3_read_49)
    (zr_n (zr_s (zk_callV (n := 1) C zXX_ok zTs_good hbc hbs (show zget zprog 57 = some mX3_takeThing from rfl) rfl rfl (show vwCl[3]? = some (RX3, TX3, 9) from rfl) zw120 zw117 zw119 zs2 zw4 (by decide +kernel) dX3_read_51)
    (zr_n (zr_n (zr_s (zk_goto C dX3_read_54 (by decide))
    (zr_n (zr_n (zr_s (zq_aload_n C dX3_read_57 rfl)
    (zr_s (zq_iload C dX3_read_58)
    (zr_n (zr_s (zk_callV (n := 1) C zXX_ok zTs_good hbc hbs (show zget zprog 55 = some mX3_takeBehindThing from rfl) rfl rfl (show vwCl[3]? = some (RX3, TX3, 9) from rfl) zw199 zw196 zw198 zs6 zw4 (by decide +kernel) dX3_read_60)
    (zr_n (zr_n (zr_s (zq_istoreN C dX3_read_63 (by decide))
    zr_0))))))))))))))))
  (zrs_c (zr_n (zr_s (zq_iload C dX3_read_65)
    (zr_n (zr_s (zqr_if_ne C dX3_read_67 (by decide))
    (zr_n (zr_n (zr_s (zq_iload_n C dX3_read_70 rfl)
    (zr_s (zk_ret1 (ty := .int) C hbc hbs rfl rfl (Or.inl ⟨dX3_read_71, by decide⟩))
    (zr_s (zk_inc (n := .ofNat 1) C dX3_read_72 (by decide) (by decide))
    (zr_n (zr_n (zr_s (zk_goto C dX3_read_75 (by decide))
    (zr_n (zr_n (zr_s (zq_aload_n C dX3_read_78 rfl)
    (zr_s (zq_getN (k := 1) C dX3_read_79 (show vwCl[6]? = some (RX6, TX6, 2) from rfl) zinX6 (by decide) (fun U H h => zn1 h))
    zr_0))))))))))))))))
  (zrs_c (zr_n (zr_n (zr_s (zq_bipush (n := .ofNat 40) C dX3_read_82 (by decide) (by decide))
    (zr_n (zr_s (zqr_gt C dX3_read_84 (by decide))
    (zr_n (zr_n (zr_s (zq_aload_n C dX3_read_87 rfl)
    (zr_s (zq_get (k := 8) C dX3_read_88 (show vwCl[3]? = some (RX3, TX3, 9) from rfl) zinX3 (by decide) zw224)
    (zr_n (zr_n (zr_s (zqr_if_ne C dX3_read_91 (by decide))
    (zr_n (zr_n (zr_s (zq_aload_n C dX3_read_94 rfl)
    (zr_s (zq_get (k := 6) C dX3_read_95 (show vwCl[3]? = some (RX3, TX3, 9) from rfl) zinX3 (by decide) zw222)
    zr_0))))))))))))))))
  (zrs_c (zr_n (zr_n (zr_s (zqr_if_le C dX3_read_98 (by decide))
    (zr_n (zr_n (zr_s (zq_iload_n C dX3_read_101 rfl)
    (zr_s (zk_ret1 (ty := .int) C hbc hbs rfl rfl (Or.inl ⟨dX3_read_102, by decide⟩))
    (zr_s (zq_aload_n C dX3_read_103 rfl)
    (zr_s (zq_iconst (n := .ofNat 1) C dX3_read_104 (by decide))
    (zr_s (zk_callV (n := 1) C zXX_ok zTs_good hbc hbs (show zget zprog 54 = some mX3_reckonDownTo from rfl) rfl rfl (show vwCl[3]? = some (RX3, TX3, 9) from rfl) zw211 zw208 zw210 zs9 zw4 (by decide +kernel) dX3_read_105)
    (zr_n (zr_n (zr_s (zq_iconst (n := .negSucc 0) C dX3_read_108 (by decide))
    (zr_s (zk_ret1 (ty := .int) C hbc hbs rfl rfl (Or.inl ⟨dX3_read_109, by decide⟩))
    zr_0))))))))))))))
  zrs_0)))))))
set_option maxRecDepth 100000 in
set_option maxHeartbeats 4000000 in
theorem okX3_readFirst {l : Launch} {D : va_G} {tys : List (ClassId × FieldType)} {o : zO} {z : Nat} (E : zEnv tys) : zCodeOk l D vwCl tys o z (zXX o z) zTs zprog mX3_readFirst := by
  intro p e R s m args below meth c0 Q ws0 hbc hbs C pc sem h
  replace hbc : R.cells = 0 := hbc
  replace hbs : R.slots = 0 := hbs
  replace C : zCx p R s m args meth c0 D vwCl tys z (zXX o z) zTs RX3 cX3_readFirst 2 "readFirst" := C
  refine zRows_get (P := fun pc sem => zOp p l e R s m args below meth c0 Q D vwCl tys o z (zXX o z) zTs zprog ws0 2 cX3_readFirst none pc sem) (c := kX3_readFirst) ?_ h
  unfold kX3_readFirst
  exact (zrs_c (zr_s (zq_aload_n C dX3_readFirst_0 rfl)
    (zr_s (zk_callV (n := 0) C zXX_ok zTs_good hbc hbs (show zget zprog 44 = some mX3_begin from rfl) rfl rfl (show vwCl[3]? = some (RX3, TX3, 9) from rfl) zw67 zw64 zw66 zs1 zw4 (by decide +kernel) dX3_readFirst_1)
    (zr_n (zr_n (zr_s (zq_iconst (n := .ofNat 0) C dX3_readFirst_4 (by decide))
    (zr_s (zq_istoreN_n C dX3_readFirst_5 rfl (by decide))
    (zr_s (zq_iload_n C dX3_readFirst_6 rfl)
    (zr_s (zq_ldcS (k := 0) C (by decide) dX3_readFirst_7 (fun U H h => zxR0 h))
    (zr_n (zr_s (zk_callT (n := 0) C zXX_ok zTs_good (fun U H h => zxT h) hbc hbs (show zget zprog 7 = some mJ0_length_8abf5 from rfl) rfl rfl rfl zw72 zw69 zw70 zw71 zw5 (by decide +kernel) dX3_readFirst_9)
    (zr_n (zr_n (zr_s (zqr_ge C dX3_readFirst_12 (by decide))
    (zr_n (zr_n (zr_s (zq_aload_n C dX3_readFirst_15 rfl)
    zr_0))))))))))))))))
  (zrs_c (zr_s (zq_get (k := 8) C dX3_readFirst_16 (show vwCl[3]? = some (RX3, TX3, 9) from rfl) zinX3 (by decide) zw224)
    (zr_n (zr_n (zr_s (zqr_if_eq C dX3_readFirst_19 (by decide))
    (zr_n (zr_n (zr_s (zq_aload_n C dX3_readFirst_22 rfl)
    (zr_s (zq_ldcS (k := 0) C (by decide) dX3_readFirst_23 (fun U H h => zxR0 h))
    (zr_n (zr_s (zq_iload_n C dX3_readFirst_25 rfl)
    (zr_s (zk_callT (n := 1) C zXX_ok zTs_good (fun U H h => zxT h) hbc hbs (show zget zprog 0 = some mJ0_charAt_5068e from rfl) rfl rfl rfl zw82 zw79 zw80 zw81 zw5 (by decide +kernel) dX3_readFirst_26)
    (zr_n (zr_n (zr_s (zk_callV (n := 1) C zXX_ok zTs_good hbc hbs (show zget zprog 57 = some mX3_takeThing from rfl) rfl rfl (show vwCl[3]? = some (RX3, TX3, 9) from rfl) zw120 zw117 zw119 zs2 zw4 (by decide +kernel) dX3_readFirst_29)
    (zr_n (zr_n zr_0))))))))))))))))
  (zrs_c (zr_s (zk_pop C dX3_readFirst_32)
    (zr_s (zk_goto C dX3_readFirst_33 (by decide))
    (zr_n (zr_n (zr_s (zq_aload_n C dX3_readFirst_36 rfl)
    (zr_s (zq_ldcS (k := 0) C (by decide) dX3_readFirst_37 (fun U H h => zxR0 h))
    (zr_n (zr_s (zq_iload_n C dX3_readFirst_39 rfl)
    (zr_s (zk_callT (n := 1) C zXX_ok zTs_good (fun U H h => zxT h) hbc hbs (show zget zprog 0 = some mJ0_charAt_5068e from rfl) rfl rfl rfl zw82 zw79 zw80 zw81 zw5 (by decide +kernel) dX3_readFirst_40)
    (zr_n (zr_n (zr_s (zk_callV (n := 1) C zXX_ok zTs_good hbc hbs (show zget zprog 55 = some mX3_takeBehindThing from rfl) rfl rfl (show vwCl[3]? = some (RX3, TX3, 9) from rfl) zw199 zw196 zw198 zs6 zw4 (by decide +kernel) dX3_readFirst_43)
    (zr_n (zr_n (zr_s (zk_pop C dX3_readFirst_46)
    (zr_s (zk_inc (n := .ofNat 1) C dX3_readFirst_47 (by decide) (by decide))
    zr_0))))))))))))))))
  (zrs_c (zr_n (zr_n (zr_s (zk_goto C dX3_readFirst_50 (by decide))
    (zr_n (zr_n (zr_s (zq_aload_n C dX3_readFirst_53 rfl)
    (zr_s (zq_iconst (n := .ofNat 1) C dX3_readFirst_54 (by decide))
    (zr_s (zk_callV (n := 1) C zXX_ok zTs_good hbc hbs (show zget zprog 54 = some mX3_reckonDownTo from rfl) rfl rfl (show vwCl[3]? = some (RX3, TX3, 9) from rfl) zw211 zw208 zw210 zs9 zw4 (by decide +kernel) dX3_readFirst_55)
    (zr_n (zr_n (zr_s (zk_ret0 C hbc hbs rfl dX3_readFirst_58)
    zr_0)))))))))))
  zrs_0))))
set_option maxRecDepth 100000 in
set_option maxHeartbeats 4000000 in
theorem okX3_reckon {l : Launch} {D : va_G} {tys : List (ClassId × FieldType)} {o : zO} {z : Nat} (E : zEnv tys) : zCodeOk l D vwCl tys o z (zXX o z) zTs zprog mX3_reckon := by
  intro p e R s m args below meth c0 Q ws0 hbc hbs C pc sem h
  replace hbc : R.cells = 0 := hbc
  replace hbs : R.slots = 0 := hbs
  replace C : zCx p R s m args meth c0 D vwCl tys z (zXX o z) zTs RX3 cX3_reckon 3 "reckon" := C
  refine zRows_get (P := fun pc sem => zOp p l e R s m args below meth c0 Q D vwCl tys o z (zXX o z) zTs zprog ws0 3 cX3_reckon (some .int) pc sem) (c := kX3_reckon) ?_ h
  unfold kX3_reckon
  exact (zrs_c (zr_s (zq_iload_n C dX3_reckon_0 rfl)
    (zr_s (zk_lsw C dX3_reckon_1 (by decide) (by decide) (fun v => zswL (pc := 1) (ps := [(.ofNat 42, .ofNat 100), (.ofNat 43, .ofNat 92), (.ofNat 45, .ofNat 96), (.ofNat 60, .ofNat 59), (.ofNat 61, .ofNat 81), (.ofNat 62, .ofNat 70)]) (by decide) (by decide) v))
    (zr_n (zr_n (zr_n (zr_n (zr_n (zr_n (zr_n (zr_n (zr_n (zr_n (zr_n (zr_n (zr_n (zr_n zr_0))))))))))))))))
  (zrs_c (zr_n (zr_n (zr_n (zr_n (zr_n (zr_n (zr_n (zr_n (zr_n (zr_n (zr_n (zr_n (zr_n (zr_n (zr_n (zr_n zr_0))))))))))))))))
  (zrs_c (zr_n (zr_n (zr_n (zr_n (zr_n (zr_n (zr_n (zr_n (zr_n (zr_n (zr_n (zr_n (zr_n (zr_n (zr_n (zr_n zr_0))))))))))))))))
  (zrs_c (zr_n (zr_n (zr_n (zr_n (zr_n (zr_n (zr_n (zr_n (zr_n (zr_n (zr_n (zr_n (zr_s (zq_iload_n C dX3_reckon_60 rfl)
    (zr_s (zq_iload_n C dX3_reckon_61 rfl)
    (zr_s (zqr_ge C dX3_reckon_62 (by decide))
    (zr_n zr_0))))))))))))))))
  (zrs_c (zr_n (zr_s (zq_iconst (n := .ofNat 1) C dX3_reckon_65 (by decide))
    (zr_s (zk_goto C dX3_reckon_66 (by decide))
    (zr_n (zr_n (zr_s (zq_iconst (n := .ofNat 0) C dX3_reckon_69 (by decide))
    (zr_s (zk_ret1 (ty := .int) C hbc hbs rfl rfl (Or.inl ⟨dX3_reckon_70, by decide⟩))
    (zr_s (zq_iload_n C dX3_reckon_71 rfl)
    (zr_s (zq_iload_n C dX3_reckon_72 rfl)
    (zr_s (zqr_le C dX3_reckon_73 (by decide))
    (zr_n (zr_n (zr_s (zq_iconst (n := .ofNat 1) C dX3_reckon_76 (by decide))
    (zr_s (zk_goto C dX3_reckon_77 (by decide))
    (zr_n (zr_n zr_0))))))))))))))))
  (zrs_c (zr_s (zq_iconst (n := .ofNat 0) C dX3_reckon_80 (by decide))
    (zr_s (zk_ret1 (ty := .int) C hbc hbs rfl rfl (Or.inl ⟨dX3_reckon_81, by decide⟩))
    (zr_s (zq_iload_n C dX3_reckon_82 rfl)
    (zr_s (zq_iload_n C dX3_reckon_83 rfl)
    (zr_s (zqr_ne C dX3_reckon_84 (by decide))
    (zr_n (zr_n (zr_s (zq_iconst (n := .ofNat 1) C dX3_reckon_87 (by decide))
    (zr_s (zk_goto C dX3_reckon_88 (by decide))
    (zr_n (zr_n (zr_s (zq_iconst (n := .ofNat 0) C dX3_reckon_91 (by decide))
    (zr_s (zk_ret1 (ty := .int) C hbc hbs rfl rfl (Or.inl ⟨dX3_reckon_92, by decide⟩))
    (zr_s (zq_iload_n C dX3_reckon_93 rfl)
    (zr_s (zq_iload_n C dX3_reckon_94 rfl)
    (zr_s (zk_add C dX3_reckon_95)
    zr_0))))))))))))))))
  (zrs_c (zr_s (zk_ret1 (ty := .int) C hbc hbs rfl rfl (Or.inl ⟨dX3_reckon_96, by decide⟩))
    (zr_s (zq_iload_n C dX3_reckon_97 rfl)
    (zr_s (zq_iload_n C dX3_reckon_98 rfl)
    (zr_s (zk_sub C dX3_reckon_99)
    (zr_s (zk_ret1 (ty := .int) C hbc hbs rfl rfl (Or.inl ⟨dX3_reckon_100, by decide⟩))
    (zr_s (zq_iload_n C dX3_reckon_101 rfl)
    (zr_s (zq_iload_n C dX3_reckon_102 rfl)
    (zr_s (zq_imul C dX3_reckon_103)
    (zr_s (zk_ret1 (ty := .int) C hbc hbs rfl rfl (Or.inl ⟨dX3_reckon_104, by decide⟩))
    (zr_s (zq_iload_n C dX3_reckon_105 rfl)
    (zr_s (zqr_if_ne C dX3_reckon_106 (by decide))
    (zr_n (zr_n (zr_s (zq_iconst (n := .ofNat 0) C dX3_reckon_109 (by decide))
    (zr_s (zk_goto C dX3_reckon_110 (by decide))
    (zr_n zr_0))))))))))))))))
  (zrs_c (zr_n (zr_s (zq_iload_n C dX3_reckon_113 rfl)
    (zr_s (zq_iload_n C dX3_reckon_114 rfl)
    (zr_s (zq_idiv C dX3_reckon_115)
    (zr_s (zk_ret1 (ty := .int) C hbc hbs rfl rfl (Or.inl ⟨dX3_reckon_116, by decide⟩))
    zr_0)))))
  zrs_0))))))))
set_option maxRecDepth 100000 in
set_option maxHeartbeats 4000000 in
theorem okX3_reckonDownTo {l : Launch} {D : va_G} {tys : List (ClassId × FieldType)} {o : zO} {z : Nat} (E : zEnv tys) : zCodeOk l D vwCl tys o z (zXX o z) zTs zprog mX3_reckonDownTo := by
  intro p e R s m args below meth c0 Q ws0 hbc hbs C pc sem h
  replace hbc : R.cells = 0 := hbc
  replace hbs : R.slots = 0 := hbs
  replace C : zCx p R s m args meth c0 D vwCl tys z (zXX o z) zTs RX3 cX3_reckonDownTo 2 "reckonDownTo" := C
  refine zRows_get (P := fun pc sem => zOp p l e R s m args below meth c0 Q D vwCl tys o z (zXX o z) zTs zprog ws0 2 cX3_reckonDownTo none pc sem) (c := kX3_reckonDownTo) ?_ h
  unfold kX3_reckonDownTo
  exact (zrs_c (zr_s (zq_aload_n C dX3_reckonDownTo_0 rfl)
    (zr_s (zq_get (k := 5) C dX3_reckonDownTo_1 (show vwCl[3]? = some (RX3, TX3, 9) from rfl) zinX3 (by decide) zw221)
    (zr_n (zr_n (zr_s (zqr_if_le C dX3_reckonDownTo_4 (by decide))
    (zr_n (zr_n (zr_s (zq_aload_n C dX3_reckonDownTo_7 rfl)
    (zr_s (zq_get (k := 1) C dX3_reckonDownTo_8 (show vwCl[3]? = some (RX3, TX3, 9) from rfl) zinX3 (by decide) zw217)
    (zr_n (zr_n (zr_s (zq_aload_n C dX3_reckonDownTo_11 rfl)
    (zr_s (zq_get (k := 5) C dX3_reckonDownTo_12 (show vwCl[3]? = some (RX3, TX3, 9) from rfl) zinX3 (by decide) zw221)
    (zr_n (zr_n (zr_s (zq_iconst (n := .ofNat 1) C dX3_reckonDownTo_15 (by decide))
    zr_0))))))))))))))))
  (zrs_c (zr_s (zk_sub C dX3_reckonDownTo_16)
    (zr_s (zk_iald C dX3_reckonDownTo_17)
    (zr_s (zk_callS C zXX_ok zTs_good hbc hbs (show zget zprog 45 = some mX3_binding from rfl) rfl rfl zw214 zw212 zw213 zw4 (by decide +kernel) dX3_reckonDownTo_18)
    (zr_n (zr_n (zr_s (zq_iload_n C dX3_reckonDownTo_21 rfl)
    (zr_s (zqr_lt C dX3_reckonDownTo_22 (by decide))
    (zr_n (zr_n (zr_s (zq_aload_n C dX3_reckonDownTo_25 rfl)
    (zr_s (zk_dup C dX3_reckonDownTo_26)
    (zr_s (zq_get (k := 5) C dX3_reckonDownTo_27 (show vwCl[3]? = some (RX3, TX3, 9) from rfl) zinX3 (by decide) zw221)
    (zr_n (zr_n (zr_s (zq_iconst (n := .ofNat 1) C dX3_reckonDownTo_30 (by decide))
    (zr_s (zk_sub C dX3_reckonDownTo_31)
    zr_0))))))))))))))))
  (zrs_c (zr_s (zq_put (k := 5) C dX3_reckonDownTo_32 (show vwCl[3]? = some (RX3, TX3, 9) from rfl) zinX3 tyX3 tyX3_ok nmX3 (by decide) zw221 rfl (ty := .int) (by decide +kernel) rfl)
    (zr_n (zr_n (zr_s (zq_aload_n C dX3_reckonDownTo_35 rfl)
    (zr_s (zq_aload_n C dX3_reckonDownTo_36 rfl)
    (zr_s (zq_get (k := 1) C dX3_reckonDownTo_37 (show vwCl[3]? = some (RX3, TX3, 9) from rfl) zinX3 (by decide) zw217)
    (zr_n (zr_n (zr_s (zq_aload_n C dX3_reckonDownTo_40 rfl)
    (zr_s (zq_get (k := 5) C dX3_reckonDownTo_41 (show vwCl[3]? = some (RX3, TX3, 9) from rfl) zinX3 (by decide) zw221)
    (zr_n (zr_n (zr_s (zk_iald C dX3_reckonDownTo_44)
    (zr_s (zq_ineg C dX3_reckonDownTo_45)
    (zr_s (zk_callV (n := 1) C zXX_ok zTs_good hbc hbs (show zget zprog 47 = some mX3_emit from rfl) rfl rfl (show vwCl[3]? = some (RX3, TX3, 9) from rfl) zw195 zw192 zw194 zs5 zw4 (by decide +kernel) dX3_reckonDownTo_46)
    (zr_n zr_0))))))))))))))))
  (zrs_c (zr_n (zr_s (zk_goto C dX3_reckonDownTo_49 (by decide))
    (zr_n (zr_n (zr_s (zk_ret0 C hbc hbs rfl dX3_reckonDownTo_52)
    zr_0)))))
  zrs_0))))
set_option maxRecDepth 100000 in
set_option maxHeartbeats 4000000 in
theorem okX3_takeBehindThing {l : Launch} {D : va_G} {tys : List (ClassId × FieldType)} {o : zO} {z : Nat} (E : zEnv tys) : zCodeOk l D vwCl tys o z (zXX o z) zTs zprog mX3_takeBehindThing := by
  intro p e R s m args below meth c0 Q ws0 hbc hbs C pc sem h
  replace hbc : R.cells = 0 := hbc
  replace hbs : R.slots = 0 := hbs
  replace C : zCx p R s m args meth c0 D vwCl tys z (zXX o z) zTs RX3 cX3_takeBehindThing 3 "takeBehindThing" := C
  refine zRows_get (P := fun pc sem => zOp p l e R s m args below meth c0 Q D vwCl tys o z (zXX o z) zTs zprog ws0 3 cX3_takeBehindThing (some .boolean) pc sem) (c := kX3_takeBehindThing) ?_ h
  unfold kX3_takeBehindThing
  exact (zrs_c (zr_s (zq_iload_n C dX3_takeBehindThing_0 rfl)
    (zr_s (zk_callSN C zXX_ok zTs_good hbc hbs (show zget zprog 136 = some mX7_isDigit from rfl) rfl rfl zw191 (fun U H h => zn6 h) zw190 zw1 (by decide +kernel) dX3_takeBehindThing_1)
    (zr_n (zr_n (zr_s (zqr_if_eq C dX3_takeBehindThing_4 (by decide))
    (zr_n (zr_n (zr_s (zq_aload_n C dX3_takeBehindThing_7 rfl)
    (zr_s (zq_iload_n C dX3_takeBehindThing_8 rfl)
    (zr_s (zq_bipush (n := .ofNat 48) C dX3_takeBehindThing_9 (by decide) (by decide))
    (zr_n (zr_s (zk_sub C dX3_takeBehindThing_11)
    (zr_s (zk_callV (n := 1) C zXX_ok zTs_good hbc hbs (show zget zprog 56 = some mX3_takeDigitMore from rfl) rfl rfl (show vwCl[3]? = some (RX3, TX3, 9) from rfl) zw203 zw200 zw202 zs7 zw4 (by decide +kernel) dX3_takeBehindThing_12)
    (zr_n (zr_n (zr_s (zk_ret1 (ty := .boolean) C hbc hbs rfl rfl (Or.inl ⟨dX3_takeBehindThing_15, by decide⟩))
    zr_0))))))))))))))))
  (zrs_c (zr_s (zq_aload_n C dX3_takeBehindThing_16 rfl)
    (zr_s (zq_iconst (n := .ofNat 0) C dX3_takeBehindThing_17 (by decide))
    (zr_s (zq_put (k := 7) C dX3_takeBehindThing_18 (show vwCl[3]? = some (RX3, TX3, 9) from rfl) zinX3 tyX3 tyX3_ok nmX3 (by decide) zw223 rfl (ty := .int) (by decide +kernel) rfl)
    (zr_n (zr_n (zr_s (zq_iload_n C dX3_takeBehindThing_21 rfl)
    (zr_s (zq_bipush (n := .ofNat 41) C dX3_takeBehindThing_22 (by decide) (by decide))
    (zr_n (zr_s (zqr_ne C dX3_takeBehindThing_24 (by decide))
    (zr_n (zr_n (zr_s (zq_aload_n C dX3_takeBehindThing_27 rfl)
    (zr_s (zk_callV (n := 0) C zXX_ok zTs_good hbc hbs (show zget zprog 46 = some mX3_closeBracket from rfl) rfl rfl (show vwCl[3]? = some (RX3, TX3, 9) from rfl) zw207 zw204 zw206 zs8 zw4 (by decide +kernel) dX3_takeBehindThing_28)
    (zr_n (zr_n (zr_s (zk_ret1 (ty := .boolean) C hbc hbs rfl rfl (Or.inl ⟨dX3_takeBehindThing_31, by decide⟩))
    zr_0))))))))))))))))
  (zrs_c (zr_s (zq_iload_n C dX3_takeBehindThing_32 rfl)
    (zr_s (zk_callS C zXX_ok zTs_good hbc hbs (show zget zprog 45 = some mX3_binding from rfl) rfl rfl zw214 zw212 zw213 zw4 (by decide +kernel) dX3_takeBehindThing_33)
    (zr_n (zr_n (zr_s (zq_istoreN_n C dX3_takeBehindThing_36 rfl (by decide))
    (zr_s (zq_iload_n C dX3_takeBehindThing_37 rfl)
    (zr_s (zqr_if_eq C dX3_takeBehindThing_38 (by decide))
    (zr_n (zr_n (zr_s (zq_iload_n C dX3_takeBehindThing_41 rfl)
    (zr_s (zq_iconst (n := .ofNat 1) C dX3_takeBehindThing_42 (by decide))
    (zr_s (zqr_ne C dX3_takeBehindThing_43 (by decide))
    (zr_n (zr_n (zr_s (zq_aload_n C dX3_takeBehindThing_46 rfl)
    (zr_s (zq_get (k := 3) C dX3_takeBehindThing_47 (show vwCl[3]? = some (RX3, TX3, 9) from rfl) zinX3 (by decide) zw219)
    zr_0))))))))))))))))
  (zrs_c (zr_n (zr_n (zr_s (zq_aload_n C dX3_takeBehindThing_50 rfl)
    (zr_s (zq_get (k := 6) C dX3_takeBehindThing_51 (show vwCl[3]? = some (RX3, TX3, 9) from rfl) zinX3 (by decide) zw222)
    (zr_n (zr_n (zr_s (zk_bald C dX3_takeBehindThing_54)
    (zr_s (zqr_if_eq C dX3_takeBehindThing_55 (by decide))
    (zr_n (zr_n (zr_s (zq_iconst (n := .ofNat 0) C dX3_takeBehindThing_58 (by decide))
    (zr_s (zk_ret1 (ty := .boolean) C hbc hbs rfl rfl (Or.inl ⟨dX3_takeBehindThing_59, by decide⟩))
    (zr_s (zq_aload_n C dX3_takeBehindThing_60 rfl)
    (zr_s (zq_get (k := 3) C dX3_takeBehindThing_61 (show vwCl[3]? = some (RX3, TX3, 9) from rfl) zinX3 (by decide) zw219)
    (zr_n (zr_n zr_0))))))))))))))))
  (zrs_c (zr_s (zq_aload_n C dX3_takeBehindThing_64 rfl)
    (zr_s (zq_get (k := 6) C dX3_takeBehindThing_65 (show vwCl[3]? = some (RX3, TX3, 9) from rfl) zinX3 (by decide) zw222)
    (zr_n (zr_n (zr_s (zq_aload_n C dX3_takeBehindThing_68 rfl)
    (zr_s (zq_get (k := 3) C dX3_takeBehindThing_69 (show vwCl[3]? = some (RX3, TX3, 9) from rfl) zinX3 (by decide) zw219)
    (zr_n (zr_n (zr_s (zq_aload_n C dX3_takeBehindThing_72 rfl)
    (zr_s (zq_get (k := 6) C dX3_takeBehindThing_73 (show vwCl[3]? = some (RX3, TX3, 9) from rfl) zinX3 (by decide) zw222)
    (zr_n (zr_n (zr_s (zk_bald C dX3_takeBehindThing_76)
    (zr_s (zqr_if_ne C dX3_takeBehindThing_77 (by decide))
    (zr_n (zr_n zr_0))))))))))))))))
  (zrs_c (zr_s (zq_iload_n C dX3_takeBehindThing_80 rfl)
    (zr_s (zq_iconst (n := .ofNat 1) C dX3_takeBehindThing_81 (by decide))
    (zr_s (zqr_ne C dX3_takeBehindThing_82 (by decide))
    (zr_n (zr_n (zr_s (zq_iconst (n := .ofNat 1) C dX3_takeBehindThing_85 (by decide))
    (zr_s (zk_goto C dX3_takeBehindThing_86 (by decide))
    (zr_n (zr_n (zr_s (zq_iconst (n := .ofNat 0) C dX3_takeBehindThing_89 (by decide))
    (zr_s (zk_bast C dX3_takeBehindThing_90)
    (zr_s (zq_aload_n C dX3_takeBehindThing_91 rfl)
    (zr_s (zq_iload_n C dX3_takeBehindThing_92 rfl)
    (zr_s (zk_callV (n := 1) C zXX_ok zTs_good hbc hbs (show zget zprog 54 = some mX3_reckonDownTo from rfl) rfl rfl (show vwCl[3]? = some (RX3, TX3, 9) from rfl) zw211 zw208 zw210 zs9 zw4 (by decide +kernel) dX3_takeBehindThing_93)
    (zr_n (zr_n zr_0))))))))))))))))
  (zrs_c (zr_s (zq_aload_n C dX3_takeBehindThing_96 rfl)
    (zr_s (zq_iload_n C dX3_takeBehindThing_97 rfl)
    (zr_s (zk_callV (n := 1) C zXX_ok zTs_good hbc hbs (show zget zprog 43 = some mX3_await from rfl) rfl rfl (show vwCl[3]? = some (RX3, TX3, 9) from rfl) zw124 zw121 zw123 zs3 zw4 (by decide +kernel) dX3_takeBehindThing_98)
    (zr_n (zr_n (zr_s (zq_aload_n C dX3_takeBehindThing_101 rfl)
    (zr_s (zq_iconst (n := .ofNat 1) C dX3_takeBehindThing_102 (by decide))
    (zr_s (zq_put (k := 8) C dX3_takeBehindThing_103 (show vwCl[3]? = some (RX3, TX3, 9) from rfl) zinX3 tyX3 tyX3_ok nmX3 (by decide) zw224 rfl (ty := .boolean) (by decide +kernel) rfl)
    (zr_n (zr_n (zr_s (zq_iconst (n := .ofNat 1) C dX3_takeBehindThing_106 (by decide))
    (zr_s (zk_ret1 (ty := .boolean) C hbc hbs rfl rfl (Or.inl ⟨dX3_takeBehindThing_107, by decide⟩))
    zr_0))))))))))))
  zrs_0)))))))
set_option maxRecDepth 100000 in
set_option maxHeartbeats 4000000 in
theorem okX3_takeDigitMore {l : Launch} {D : va_G} {tys : List (ClassId × FieldType)} {o : zO} {z : Nat} (E : zEnv tys) : zCodeOk l D vwCl tys o z (zXX o z) zTs zprog mX3_takeDigitMore := by
  intro p e R s m args below meth c0 Q ws0 hbc hbs C pc sem h
  replace hbc : R.cells = 0 := hbc
  replace hbs : R.slots = 0 := hbs
  replace C : zCx p R s m args meth c0 D vwCl tys z (zXX o z) zTs RX3 cX3_takeDigitMore 2 "takeDigitMore" := C
  refine zRows_get (P := fun pc sem => zOp p l e R s m args below meth c0 Q D vwCl tys o z (zXX o z) zTs zprog ws0 2 cX3_takeDigitMore (some .boolean) pc sem) (c := kX3_takeDigitMore) ?_ h
  unfold kX3_takeDigitMore
  exact (zrs_c (zr_s (zq_aload_n C dX3_takeDigitMore_0 rfl)
    (zr_s (zq_get (k := 7) C dX3_takeDigitMore_1 (show vwCl[3]? = some (RX3, TX3, 9) from rfl) zinX3 (by decide) zw223)
    (zr_n (zr_n (zr_s (zq_iconst (n := .ofNat 1) C dX3_takeDigitMore_4 (by decide))
    (zr_s (zqr_lt C dX3_takeDigitMore_5 (by decide))
    (zr_n (zr_n (zr_s (zq_aload_n C dX3_takeDigitMore_8 rfl)
    (zr_s (zq_get (k := 7) C dX3_takeDigitMore_9 (show vwCl[3]? = some (RX3, TX3, 9) from rfl) zinX3 (by decide) zw223)
    (zr_n (zr_n (zr_s (zq_iconst (n := .ofNat 3) C dX3_takeDigitMore_12 (by decide))
    (zr_s (zqr_ge C dX3_takeDigitMore_13 (by decide))
    (zr_n (zr_n zr_0))))))))))))))))
  (zrs_c (zr_s (zq_aload_n C dX3_takeDigitMore_16 rfl)
    (zr_s (zq_get (k := 4) C dX3_takeDigitMore_17 (show vwCl[3]? = some (RX3, TX3, 9) from rfl) zinX3 (by decide) zw220)
    (zr_n (zr_n (zr_s (zq_iconst (n := .ofNat 1) C dX3_takeDigitMore_20 (by decide))
    (zr_s (zqr_ge C dX3_takeDigitMore_21 (by decide))
    (zr_n (zr_n (zr_s (zq_iconst (n := .ofNat 0) C dX3_takeDigitMore_24 (by decide))
    (zr_s (zk_ret1 (ty := .boolean) C hbc hbs rfl rfl (Or.inl ⟨dX3_takeDigitMore_25, by decide⟩))
    (zr_s (zq_aload_n C dX3_takeDigitMore_26 rfl)
    (zr_s (zk_dup C dX3_takeDigitMore_27)
    (zr_s (zq_get (k := 7) C dX3_takeDigitMore_28 (show vwCl[3]? = some (RX3, TX3, 9) from rfl) zinX3 (by decide) zw223)
    (zr_n (zr_n (zr_s (zq_iconst (n := .ofNat 1) C dX3_takeDigitMore_31 (by decide))
    zr_0))))))))))))))))
  (zrs_c (zr_s (zk_add C dX3_takeDigitMore_32)
    (zr_s (zq_put (k := 7) C dX3_takeDigitMore_33 (show vwCl[3]? = some (RX3, TX3, 9) from rfl) zinX3 tyX3 tyX3_ok nmX3 (by decide) zw223 rfl (ty := .int) (by decide +kernel) rfl)
    (zr_n (zr_n (zr_s (zq_aload_n C dX3_takeDigitMore_36 rfl)
    (zr_s (zq_get (k := 0) C dX3_takeDigitMore_37 (show vwCl[3]? = some (RX3, TX3, 9) from rfl) zinX3 (by decide) zw216)
    (zr_n (zr_n (zr_s (zq_aload_n C dX3_takeDigitMore_40 rfl)
    (zr_s (zq_get (k := 4) C dX3_takeDigitMore_41 (show vwCl[3]? = some (RX3, TX3, 9) from rfl) zinX3 (by decide) zw220)
    (zr_n (zr_n (zr_s (zq_iconst (n := .ofNat 1) C dX3_takeDigitMore_44 (by decide))
    (zr_s (zk_sub C dX3_takeDigitMore_45)
    (zr_s (zq_aload_n C dX3_takeDigitMore_46 rfl)
    (zr_s (zq_get (k := 0) C dX3_takeDigitMore_47 (show vwCl[3]? = some (RX3, TX3, 9) from rfl) zinX3 (by decide) zw216)
    zr_0))))))))))))))))
  (zrs_c (zr_n (zr_n (zr_s (zq_aload_n C dX3_takeDigitMore_50 rfl)
    (zr_s (zq_get (k := 4) C dX3_takeDigitMore_51 (show vwCl[3]? = some (RX3, TX3, 9) from rfl) zinX3 (by decide) zw220)
    (zr_n (zr_n (zr_s (zq_iconst (n := .ofNat 1) C dX3_takeDigitMore_54 (by decide))
    (zr_s (zk_sub C dX3_takeDigitMore_55)
    (zr_s (zk_iald C dX3_takeDigitMore_56)
    (zr_s (zq_bipush (n := .ofNat 10) C dX3_takeDigitMore_57 (by decide) (by decide))
    (zr_n (zr_s (zq_imul C dX3_takeDigitMore_59)
    (zr_s (zq_iload_n C dX3_takeDigitMore_60 rfl)
    (zr_s (zk_add C dX3_takeDigitMore_61)
    (zr_s (zk_iast C dX3_takeDigitMore_62)
    (zr_s (zq_iconst (n := .ofNat 1) C dX3_takeDigitMore_63 (by decide))
    zr_0))))))))))))))))
  (zrs_c (zr_s (zk_ret1 (ty := .boolean) C hbc hbs rfl rfl (Or.inl ⟨dX3_takeDigitMore_64, by decide⟩))
    zr_0)
  zrs_0)))))
