set_option maxRecDepth 100000 in
set_option maxHeartbeats 4000000 in
theorem okJ0_charAt_5068e {l : Launch} {D : va_G} {tys : List (ClassId × FieldType)} {o : zO} {z : Nat} (E : zEnv tys) : zCodeOk l D vwCl tys o z (zXX o z) zTs zprog mJ0_charAt_5068e := by
  intro p e R s m args below meth c0 Q ws0 hbc hbs C pc sem h
  replace hbc : R.cells = 0 := hbc
  replace hbs : R.slots = 0 := hbs
  replace C : zCx p R s m args meth c0 D vwCl tys z (zXX o z) zTs RJ0 cJ0_charAt_5068e 2 "charAt" := C
  refine zRows_get (P := fun pc sem => zOp p l e R s m args below meth c0 Q D vwCl tys o z (zXX o z) zTs zprog ws0 2 cJ0_charAt_5068e (some .char) pc sem) (c := kJ0_charAt_5068e) ?_ h
  unfold kJ0_charAt_5068e
  exact (zrs_c (zr_s (zq_aload_n C dJ0_charAt_5068e_0 rfl)
    (zr_s (zk_callT (n := 0) C zXX_ok zTs_good (fun U H h => zxT h) hbc hbs (show zget zprog 6 = some mJ0_isLatin1_aae02 from rfl) rfl rfl rfl zw86 zw83 zw84 zw85 zw5 (by decide +kernel) dJ0_charAt_5068e_1)
    (zr_n (zr_n (zr_s (zq_if_eq C dJ0_charAt_5068e_4 (by decide))
    (zr_n (zr_n (zr_s (zq_aload_n C dJ0_charAt_5068e_7 rfl)
    (zr_s (zk_getSv C (fun U H h => zxT h) dJ0_charAt_5068e_8 zw1807)
    (zr_n (zr_n (zr_s (zq_iload_n C dJ0_charAt_5068e_11 rfl)
    (zr_s (zk_callS C zXX_ok zTs_good hbc hbs (show zget zprog 9 = some mJ1_charAt_3b067 from rfl) rfl rfl zw89 zw87 zw88 zw6 (by decide +kernel) dJ0_charAt_5068e_12)
    (zr_n (zr_n (zr_s (zk_retC C hbc hbs rfl dJ0_charAt_5068e_15)
    zr_0))))))))))))))))
  (zrs_c (zr_s (zq_aload_n C dJ0_charAt_5068e_16 rfl)
    (zr_s (zk_getSv C (fun U H h => zxT h) dJ0_charAt_5068e_17 zw1807)
    (zr_n (zr_n (zr_s (zq_iload_n C dJ0_charAt_5068e_20 rfl)
    (zr_n (zr_n (zr_n (zr_s (zk_retC C hbc hbs rfl dJ0_charAt_5068e_24)
    zr_0)))))))))
  zrs_0))
set_option maxRecDepth 100000 in
set_option maxHeartbeats 4000000 in
theorem okJ0_checkBoundsBeginEnd_23922 {l : Launch} {D : va_G} {tys : List (ClassId × FieldType)} {o : zO} {z : Nat} (E : zEnv tys) : zCodeOk l D vwCl tys o z (zXX o z) zTs zprog mJ0_checkBoundsBeginEnd_23922 := by
  intro p e R s m args below meth c0 Q ws0 hbc hbs C pc sem h
  replace hbc : R.cells = 0 := hbc
  replace hbs : R.slots = 0 := hbs
  replace C : zCx p R s m args meth c0 D vwCl tys z (zXX o z) zTs RJ0 cJ0_checkBoundsBeginEnd_23922 3 "checkBoundsBeginEnd" := C
  refine zRows_get (P := fun pc sem => zOp p l e R s m args below meth c0 Q D vwCl tys o z (zXX o z) zTs zprog ws0 3 cJ0_checkBoundsBeginEnd_23922 none pc sem) (c := kJ0_checkBoundsBeginEnd_23922) ?_ h
  unfold kJ0_checkBoundsBeginEnd_23922
  exact (zrs_c (zr_s (zq_iload_n C dJ0_checkBoundsBeginEnd_23922_0 rfl)
    (zr_s (zq_iload_n C dJ0_checkBoundsBeginEnd_23922_1 rfl)
    (zr_s (zq_iload_n C dJ0_checkBoundsBeginEnd_23922_2 rfl)
    (zr_s (zq_getsQ (k := 100) C (by decide) dJ0_checkBoundsBeginEnd_23922_3 zw93 (fun U H h => zxF h))
    (zr_n (zr_n (zr_s (zk_callS C zXX_ok zTs_good hbc hbs (show zget zprog 12 = some mJ3_checkFromToIndex_8c36e from rfl) rfl rfl zw171 zw169 zw170 zw7 (by decide +kernel) dJ0_checkBoundsBeginEnd_23922_6)
    (zr_n (zr_n (zr_s (zk_pop C dJ0_checkBoundsBeginEnd_23922_9)
    (zr_s (zk_ret0 C hbc hbs rfl dJ0_checkBoundsBeginEnd_23922_10)
    zr_0)))))))))))
  zrs_0)
set_option maxRecDepth 100000 in
set_option maxHeartbeats 4000000 in
theorem okJ0_checkIndex_df160 {l : Launch} {D : va_G} {tys : List (ClassId × FieldType)} {o : zO} {z : Nat} (E : zEnv tys) : zCodeOk l D vwCl tys o z (zXX o z) zTs zprog mJ0_checkIndex_df160 := by
  intro p e R s m args below meth c0 Q ws0 hbc hbs C pc sem h
  replace hbc : R.cells = 0 := hbc
  replace hbs : R.slots = 0 := hbs
  replace C : zCx p R s m args meth c0 D vwCl tys z (zXX o z) zTs RJ0 cJ0_checkIndex_df160 2 "checkIndex" := C
  refine zRows_get (P := fun pc sem => zOp p l e R s m args below meth c0 Q D vwCl tys o z (zXX o z) zTs zprog ws0 2 cJ0_checkIndex_df160 none pc sem) (c := kJ0_checkIndex_df160) ?_ h
  unfold kJ0_checkIndex_df160
  exact (zrs_c (zr_s (zq_iload_n C dJ0_checkIndex_df160_0 rfl)
    (zr_s (zq_iload_n C dJ0_checkIndex_df160_1 rfl)
    (zr_s (zq_getsQ (k := 100) C (by decide) dJ0_checkIndex_df160_2 zw93 (fun U H h => zxF h))
    (zr_n (zr_n (zr_s (zk_callS C zXX_ok zTs_good hbc hbs (show zget zprog 13 = some mJ3_checkIndex_8e157 from rfl) rfl rfl zw97 zw95 zw96 zw7 (by decide +kernel) dJ0_checkIndex_df160_5)
    (zr_n (zr_n (zr_s (zk_pop C dJ0_checkIndex_df160_8)
    (zr_s (zk_ret0 C hbc hbs rfl dJ0_checkIndex_df160_9)
    zr_0))))))))))
  zrs_0)
set_option maxRecDepth 100000 in
set_option maxHeartbeats 4000000 in
theorem okJ0_coder_7d493 {l : Launch} {D : va_G} {tys : List (ClassId × FieldType)} {o : zO} {z : Nat} (E : zEnv tys) : zCodeOk l D vwCl tys o z (zXX o z) zTs zprog mJ0_coder_7d493 := by
  intro p e R s m args below meth c0 Q ws0 hbc hbs C pc sem h
  replace hbc : R.cells = 0 := hbc
  replace hbs : R.slots = 0 := hbs
  replace C : zCx p R s m args meth c0 D vwCl tys z (zXX o z) zTs RJ0 cJ0_coder_7d493 1 "coder" := C
  refine zRows_get (P := fun pc sem => zOp p l e R s m args below meth c0 Q D vwCl tys o z (zXX o z) zTs zprog ws0 1 cJ0_coder_7d493 (some .byte) pc sem) (c := kJ0_coder_7d493) ?_ h
  unfold kJ0_coder_7d493
  exact (zrs_c (zr_s (zq_getsI (v := .ofNat 1) C dJ0_coder_7d493_0 zw77 (fun U H h => zxC h) (by decide))
    (zr_n (zr_n (zr_s (zq_if_eq C dJ0_coder_7d493_3 (by decide))
    (zr_n (zr_n (zr_s (zq_aload_n C dJ0_coder_7d493_6 rfl)
    (zr_s (zk_getSc C (fun U H h => zxT h) dJ0_coder_7d493_7 zw1808)
    (zr_n (zr_n (zr_s (zk_goto C dJ0_coder_7d493_10 (by decide))
    (zr_n (zr_n (zr_s (zq_iconst (n := .ofNat 1) C dJ0_coder_7d493_13 (by decide))
    (zr_s (zk_retB C hbc hbs rfl dJ0_coder_7d493_14)
    zr_0)))))))))))))))
  zrs_0)
set_option maxRecDepth 100000 in
set_option maxHeartbeats 4000000 in
theorem okJ0_indexOf_0f7a4 {l : Launch} {D : va_G} {tys : List (ClassId × FieldType)} {o : zO} {z : Nat} (E : zEnv tys) : zCodeOk l D vwCl tys o z (zXX o z) zTs zprog mJ0_indexOf_0f7a4 := by
  intro p e R s m args below meth c0 Q ws0 hbc hbs C pc sem h
  replace hbc : R.cells = 0 := hbc
  replace hbs : R.slots = 0 := hbs
  replace C : zCx p R s m args meth c0 D vwCl tys z (zXX o z) zTs RJ0 cJ0_indexOf_0f7a4 2 "indexOf" := C
  refine zRows_get (P := fun pc sem => zOp p l e R s m args below meth c0 Q D vwCl tys o z (zXX o z) zTs zprog ws0 2 cJ0_indexOf_0f7a4 (some .int) pc sem) (c := kJ0_indexOf_0f7a4) ?_ h
  unfold kJ0_indexOf_0f7a4
  exact (zrs_c (zr_s (zq_aload_n C dJ0_indexOf_0f7a4_0 rfl)
    (zr_s (zq_iload_n C dJ0_indexOf_0f7a4_1 rfl)
    (zr_s (zq_iconst (n := .ofNat 0) C dJ0_indexOf_0f7a4_2 (by decide))
    (zr_s (zk_callT (n := 2) C zXX_ok zTs_good (fun U H h => zxT h) hbc hbs (show zget zprog 5 = some mJ0_indexOf_7cf53 from rfl) rfl rfl rfl zw137 zw134 zw135 zw136 zw5 (by decide +kernel) dJ0_indexOf_0f7a4_3)
    (zr_n (zr_n (zr_s (zk_ret1 (ty := .int) C hbc hbs rfl rfl (Or.inl ⟨dJ0_indexOf_0f7a4_6, by decide⟩))
    zr_0)))))))
  zrs_0)
set_option maxRecDepth 100000 in
set_option maxHeartbeats 4000000 in
theorem okJ0_indexOf_7cf53 {l : Launch} {D : va_G} {tys : List (ClassId × FieldType)} {o : zO} {z : Nat} (E : zEnv tys) : zCodeOk l D vwCl tys o z (zXX o z) zTs zprog mJ0_indexOf_7cf53 := by
  intro p e R s m args below meth c0 Q ws0 hbc hbs C pc sem h
  replace hbc : R.cells = 0 := hbc
  replace hbs : R.slots = 0 := hbs
  replace C : zCx p R s m args meth c0 D vwCl tys z (zXX o z) zTs RJ0 cJ0_indexOf_7cf53 3 "indexOf" := C
  refine zRows_get (P := fun pc sem => zOp p l e R s m args below meth c0 Q D vwCl tys o z (zXX o z) zTs zprog ws0 3 cJ0_indexOf_7cf53 (some .int) pc sem) (c := kJ0_indexOf_7cf53) ?_ h
  unfold kJ0_indexOf_7cf53
  exact (zrs_c (zr_s (zq_aload_n C dJ0_indexOf_7cf53_0 rfl)
    (zr_s (zk_callT (n := 0) C zXX_ok zTs_good (fun U H h => zxT h) hbc hbs (show zget zprog 6 = some mJ0_isLatin1_aae02 from rfl) rfl rfl rfl zw86 zw83 zw84 zw85 zw5 (by decide +kernel) dJ0_indexOf_7cf53_1)
    (zr_n (zr_n (zr_s (zq_if_eq C dJ0_indexOf_7cf53_4 (by decide))
    (zr_n (zr_n (zr_s (zq_aload_n C dJ0_indexOf_7cf53_7 rfl)
    (zr_s (zk_getSv C (fun U H h => zxT h) dJ0_indexOf_7cf53_8 zw1807)
    (zr_n (zr_n (zr_s (zq_iload_n C dJ0_indexOf_7cf53_11 rfl)
    (zr_s (zq_iload_n C dJ0_indexOf_7cf53_12 rfl)
    (zr_s (zq_aload_n C dJ0_indexOf_7cf53_13 rfl)
    (zr_s (zk_callT (n := 0) C zXX_ok zTs_good (fun U H h => zxT h) hbc hbs (show zget zprog 7 = some mJ0_length_8abf5 from rfl) rfl rfl rfl zw72 zw138 zw70 zw71 zw5 (by decide +kernel) dJ0_indexOf_7cf53_14)
    (zr_n zr_0))))))))))))))))
  (zrs_c (zr_n (zr_s (zk_callS C zXX_ok zTs_good hbc hbs (show zget zprog 11 = some mJ1_indexOf_4cfef from rfl) rfl rfl zw141 zw139 zw140 zw6 (by decide +kernel) dJ0_indexOf_7cf53_17)
    (zr_n (zr_n (zr_s (zk_goto C dJ0_indexOf_7cf53_20 (by decide))
    (zr_n (zr_n (zr_s (zq_aload_n C dJ0_indexOf_7cf53_23 rfl)
    (zr_s (zk_getSv C (fun U H h => zxT h) dJ0_indexOf_7cf53_24 zw1807)
    (zr_n (zr_n (zr_s (zq_iload_n C dJ0_indexOf_7cf53_27 rfl)
    (zr_s (zq_iload_n C dJ0_indexOf_7cf53_28 rfl)
    (zr_s (zq_aload_n C dJ0_indexOf_7cf53_29 rfl)
    (zr_s (zk_callT (n := 0) C zXX_ok zTs_good (fun U H h => zxT h) hbc hbs (show zget zprog 7 = some mJ0_length_8abf5 from rfl) rfl rfl rfl zw72 zw138 zw70 zw71 zw5 (by decide +kernel) dJ0_indexOf_7cf53_30)
    (zr_n zr_0))))))))))))))))
  (zrs_c (zr_n (zr_n (zr_n (zr_n (zr_s (zk_ret1 (ty := .int) C hbc hbs rfl rfl (Or.inl ⟨dJ0_indexOf_7cf53_36, by decide⟩))
    zr_0)))))
  zrs_0)))
set_option maxRecDepth 100000 in
set_option maxHeartbeats 4000000 in
theorem okJ0_isLatin1_aae02 {l : Launch} {D : va_G} {tys : List (ClassId × FieldType)} {o : zO} {z : Nat} (E : zEnv tys) : zCodeOk l D vwCl tys o z (zXX o z) zTs zprog mJ0_isLatin1_aae02 := by
  intro p e R s m args below meth c0 Q ws0 hbc hbs C pc sem h
  replace hbc : R.cells = 0 := hbc
  replace hbs : R.slots = 0 := hbs
  replace C : zCx p R s m args meth c0 D vwCl tys z (zXX o z) zTs RJ0 cJ0_isLatin1_aae02 1 "isLatin1" := C
  refine zRows_get (P := fun pc sem => zOp p l e R s m args below meth c0 Q D vwCl tys o z (zXX o z) zTs zprog ws0 1 cJ0_isLatin1_aae02 (some .boolean) pc sem) (c := kJ0_isLatin1_aae02) ?_ h
  unfold kJ0_isLatin1_aae02
  exact (zrs_c (zr_s (zq_getsI (v := .ofNat 1) C dJ0_isLatin1_aae02_0 zw77 (fun U H h => zxC h) (by decide))
    (zr_n (zr_n (zr_s (zq_if_eq C dJ0_isLatin1_aae02_3 (by decide))
    (zr_n (zr_n (zr_s (zq_aload_n C dJ0_isLatin1_aae02_6 rfl)
    (zr_s (zk_getSc C (fun U H h => zxT h) dJ0_isLatin1_aae02_7 zw1808)
    (zr_n (zr_n (zr_s (zq_if_ne C dJ0_isLatin1_aae02_10 (by decide))
    (zr_n (zr_n (zr_s (zq_iconst (n := .ofNat 1) C dJ0_isLatin1_aae02_13 (by decide))
    (zr_s (zk_goto C dJ0_isLatin1_aae02_14 (by decide))
    (zr_n zr_0))))))))))))))))
  (zrs_c (zr_n (zr_s (zq_iconst (n := .ofNat 0) C dJ0_isLatin1_aae02_17 (by decide))
    (zr_s (zk_ret1 (ty := .boolean) C hbc hbs rfl rfl (Or.inl ⟨dJ0_isLatin1_aae02_18, by decide⟩))
    zr_0)))
  zrs_0))
set_option maxRecDepth 100000 in
set_option maxHeartbeats 4000000 in
theorem okJ0_length_8abf5 {l : Launch} {D : va_G} {tys : List (ClassId × FieldType)} {o : zO} {z : Nat} (E : zEnv tys) : zCodeOk l D vwCl tys o z (zXX o z) zTs zprog mJ0_length_8abf5 := by
  intro p e R s m args below meth c0 Q ws0 hbc hbs C pc sem h
  replace hbc : R.cells = 0 := hbc
  replace hbs : R.slots = 0 := hbs
  replace C : zCx p R s m args meth c0 D vwCl tys z (zXX o z) zTs RJ0 cJ0_length_8abf5 1 "length" := C
  refine zRows_get (P := fun pc sem => zOp p l e R s m args below meth c0 Q D vwCl tys o z (zXX o z) zTs zprog ws0 1 cJ0_length_8abf5 (some .int) pc sem) (c := kJ0_length_8abf5) ?_ h
  unfold kJ0_length_8abf5
  exact (zrs_c (zr_s (zq_aload_n C dJ0_length_8abf5_0 rfl)
    (zr_s (zk_getSv C (fun U H h => zxT h) dJ0_length_8abf5_1 zw1807)
    (zr_n (zr_n (zr_s (zk_lenS C (fun U H h => zxT h) dJ0_length_8abf5_4)
    (zr_s (zq_aload_n C dJ0_length_8abf5_5 rfl)
    (zr_s (zk_callT (n := 0) C zXX_ok zTs_good (fun U H h => zxT h) hbc hbs (show zget zprog 3 = some mJ0_coder_7d493 from rfl) rfl rfl rfl zw76 zw73 zw74 zw75 zw5 (by decide +kernel) dJ0_length_8abf5_6)
    (zr_n (zr_n (zr_s (zq_ishr C dJ0_length_8abf5_9)
    (zr_s (zk_ret1 (ty := .int) C hbc hbs rfl rfl (Or.inl ⟨dJ0_length_8abf5_10, by decide⟩))
    zr_0)))))))))))
  zrs_0)
set_option maxRecDepth 100000 in
set_option maxHeartbeats 4000000 in
theorem okJ1_canEncode_9a6ad {l : Launch} {D : va_G} {tys : List (ClassId × FieldType)} {o : zO} {z : Nat} (E : zEnv tys) : zCodeOk l D vwCl tys o z (zXX o z) zTs zprog mJ1_canEncode_9a6ad := by
  intro p e R s m args below meth c0 Q ws0 hbc hbs C pc sem h
  replace hbc : R.cells = 0 := hbc
  replace hbs : R.slots = 0 := hbs
  replace C : zCx p R s m args meth c0 D vwCl tys z (zXX o z) zTs RJ1 cJ1_canEncode_9a6ad 1 "canEncode" := C
  refine zRows_get (P := fun pc sem => zOp p l e R s m args below meth c0 Q D vwCl tys o z (zXX o z) zTs zprog ws0 1 cJ1_canEncode_9a6ad (some .boolean) pc sem) (c := kJ1_canEncode_9a6ad) ?_ h
  unfold kJ1_canEncode_9a6ad
  exact (zrs_c (zr_s (zq_iload_n C dJ1_canEncode_9a6ad_0 rfl)
    (zr_s (zq_if_lt C dJ1_canEncode_9a6ad_1 (by decide))
    (zr_n (zr_n (zr_s (zq_iload_n C dJ1_canEncode_9a6ad_4 rfl)
    (zr_s (zq_sipush (n := .ofNat 255) C dJ1_canEncode_9a6ad_5 (by decide) (by decide))
    (zr_n (zr_n (zr_s (zq_icmp_gt C dJ1_canEncode_9a6ad_8 (by decide))
    (zr_n (zr_n (zr_s (zq_iconst (n := .ofNat 1) C dJ1_canEncode_9a6ad_11 (by decide))
    (zr_s (zk_goto C dJ1_canEncode_9a6ad_12 (by decide))
    (zr_n (zr_n (zr_s (zq_iconst (n := .ofNat 0) C dJ1_canEncode_9a6ad_15 (by decide))
    zr_0))))))))))))))))
  (zrs_c (zr_s (zk_ret1 (ty := .boolean) C hbc hbs rfl rfl (Or.inl ⟨dJ1_canEncode_9a6ad_16, by decide⟩))
    zr_0)
  zrs_0))
set_option maxRecDepth 100000 in
set_option maxHeartbeats 4000000 in
theorem okJ1_charAt_3b067 {l : Launch} {D : va_G} {tys : List (ClassId × FieldType)} {o : zO} {z : Nat} (E : zEnv tys) : zCodeOk l D vwCl tys o z (zXX o z) zTs zprog mJ1_charAt_3b067 := by
  intro p e R s m args below meth c0 Q ws0 hbc hbs C pc sem h
  replace hbc : R.cells = 0 := hbc
  replace hbs : R.slots = 0 := hbs
  replace C : zCx p R s m args meth c0 D vwCl tys z (zXX o z) zTs RJ1 cJ1_charAt_3b067 2 "charAt" := C
  refine zRows_get (P := fun pc sem => zOp p l e R s m args below meth c0 Q D vwCl tys o z (zXX o z) zTs zprog ws0 2 cJ1_charAt_3b067 (some .char) pc sem) (c := kJ1_charAt_3b067) ?_ h
  unfold kJ1_charAt_3b067
  exact (zrs_c (zr_s (zq_iload_n C dJ1_charAt_3b067_0 rfl)
    (zr_s (zq_aload_n C dJ1_charAt_3b067_1 rfl)
    (zr_s (zk_lenS C (fun U H h => zxT h) dJ1_charAt_3b067_2)
    (zr_s (zk_callS C zXX_ok zTs_good hbc hbs (show zget zprog 2 = some mJ0_checkIndex_df160 from rfl) rfl rfl zw92 zw90 zw91 zw5 (by decide +kernel) dJ1_charAt_3b067_3)
    (zr_n (zr_n (zr_s (zq_aload_n C dJ1_charAt_3b067_6 rfl)
    (zr_s (zq_iload_n C dJ1_charAt_3b067_7 rfl)
    (zr_s (zk_baldS C (fun U H h => zxT h) dJ1_charAt_3b067_8)
    (zr_s (zq_sipush (n := .ofNat 255) C dJ1_charAt_3b067_9 (by decide) (by decide))
    (zr_n (zr_n (zr_s (zq_iand C dJ1_charAt_3b067_12)
    (zr_s (zq_i2c C dJ1_charAt_3b067_13)
    (zr_s (zk_retC C hbc hbs rfl dJ1_charAt_3b067_14)
    zr_0)))))))))))))))
  zrs_0)
set_option maxRecDepth 100000 in
set_option maxHeartbeats 4000000 in
theorem okJ1_indexOfChar_4cfef {l : Launch} {D : va_G} {tys : List (ClassId × FieldType)} {o : zO} {z : Nat} (E : zEnv tys) : zCodeOk l D vwCl tys o z (zXX o z) zTs zprog mJ1_indexOfChar_4cfef := by
  intro p e R s m args below meth c0 Q ws0 hbc hbs C pc sem h
  replace hbc : R.cells = 0 := hbc
  replace hbs : R.slots = 0 := hbs
  replace C : zCx p R s m args meth c0 D vwCl tys z (zXX o z) zTs RJ1 cJ1_indexOfChar_4cfef 6 "indexOfChar" := C
  refine zRows_get (P := fun pc sem => zOp p l e R s m args below meth c0 Q D vwCl tys o z (zXX o z) zTs zprog ws0 6 cJ1_indexOfChar_4cfef (some .int) pc sem) (c := kJ1_indexOfChar_4cfef) ?_ h
  unfold kJ1_indexOfChar_4cfef
  exact (zrs_c (zr_s (zq_iload_n C dJ1_indexOfChar_4cfef_0 rfl)
    (zr_s (zq_i2b C dJ1_indexOfChar_4cfef_1)
    (zr_s (zq_istore C dJ1_indexOfChar_4cfef_2 (by decide))
    (zr_n (zr_s (zq_iload_n C dJ1_indexOfChar_4cfef_4 rfl)
    (zr_s (zq_istore C dJ1_indexOfChar_4cfef_5 (by decide))
    (zr_n (zr_s (zq_iload C dJ1_indexOfChar_4cfef_7)
    (zr_n (zr_s (zq_iload_n C dJ1_indexOfChar_4cfef_9 rfl)
    (zr_s (zq_icmp_ge C dJ1_indexOfChar_4cfef_10 (by decide))
    (zr_n (zr_n (zr_s (zq_aload_n C dJ1_indexOfChar_4cfef_13 rfl)
    (zr_s (zq_iload C dJ1_indexOfChar_4cfef_14)
    (zr_n zr_0))))))))))))))))
  (zrs_c (zr_s (zk_baldS C (fun U H h => zxT h) dJ1_indexOfChar_4cfef_16)
    (zr_s (zq_iload C dJ1_indexOfChar_4cfef_17)
    (zr_n (zr_s (zq_icmp_ne C dJ1_indexOfChar_4cfef_19 (by decide))
    (zr_n (zr_n (zr_s (zq_iload C dJ1_indexOfChar_4cfef_22)
    (zr_n (zr_s (zk_ret1 (ty := .int) C hbc hbs rfl rfl (Or.inl ⟨dJ1_indexOfChar_4cfef_24, by decide⟩))
    (zr_s (zk_inc (n := .ofNat 1) C dJ1_indexOfChar_4cfef_25 (by decide) (by decide))
    (zr_n (zr_n (zr_s (zk_goto C dJ1_indexOfChar_4cfef_28 (by decide))
    (zr_n (zr_n (zr_s (zq_iconst (n := .negSucc 0) C dJ1_indexOfChar_4cfef_31 (by decide))
    zr_0))))))))))))))))
  (zrs_c (zr_s (zk_ret1 (ty := .int) C hbc hbs rfl rfl (Or.inl ⟨dJ1_indexOfChar_4cfef_32, by decide⟩))
    zr_0)
  zrs_0)))
set_option maxRecDepth 100000 in
set_option maxHeartbeats 4000000 in
theorem okJ1_indexOf_4cfef {l : Launch} {D : va_G} {tys : List (ClassId × FieldType)} {o : zO} {z : Nat} (E : zEnv tys) : zCodeOk l D vwCl tys o z (zXX o z) zTs zprog mJ1_indexOf_4cfef := by
  intro p e R s m args below meth c0 Q ws0 hbc hbs C pc sem h
  replace hbc : R.cells = 0 := hbc
  replace hbs : R.slots = 0 := hbs
  replace C : zCx p R s m args meth c0 D vwCl tys z (zXX o z) zTs RJ1 cJ1_indexOf_4cfef 4 "indexOf" := C
  refine zRows_get (P := fun pc sem => zOp p l e R s m args below meth c0 Q D vwCl tys o z (zXX o z) zTs zprog ws0 4 cJ1_indexOf_4cfef (some .int) pc sem) (c := kJ1_indexOf_4cfef) ?_ h
  unfold kJ1_indexOf_4cfef
  exact (zrs_c (zr_s (zq_iload_n C dJ1_indexOf_4cfef_0 rfl)
    (zr_s (zk_callS C zXX_ok zTs_good hbc hbs (show zget zprog 8 = some mJ1_canEncode_9a6ad from rfl) rfl rfl zw144 zw142 zw143 zw6 (by decide +kernel) dJ1_indexOf_4cfef_1)
    (zr_n (zr_n (zr_s (zq_if_ne C dJ1_indexOf_4cfef_4 (by decide))
    (zr_n (zr_n (zr_s (zq_iconst (n := .negSucc 0) C dJ1_indexOf_4cfef_7 (by decide))
    (zr_s (zk_ret1 (ty := .int) C hbc hbs rfl rfl (Or.inl ⟨dJ1_indexOf_4cfef_8, by decide⟩))
    (zr_s (zq_iload_n C dJ1_indexOf_4cfef_9 rfl)
    (zr_s (zq_iconst (n := .ofNat 0) C dJ1_indexOf_4cfef_10 (by decide))
    (zr_s (zq_max C hbc hbs dJ1_indexOf_4cfef_11 zw145 zw146 zw9 zw147)
    (zr_n (zr_n (zr_s (zq_istore_n C dJ1_indexOf_4cfef_14 rfl (by decide))
    (zr_s (zq_iload_n C dJ1_indexOf_4cfef_15 rfl)
    zr_0))))))))))))))))
  (zrs_c (zr_s (zq_aload_n C dJ1_indexOf_4cfef_16 rfl)
    (zr_s (zk_lenS C (fun U H h => zxT h) dJ1_indexOf_4cfef_17)
    (zr_s (zq_min C hbc hbs dJ1_indexOf_4cfef_18 zw148 zw149 zw9 zw150)
    (zr_n (zr_n (zr_s (zq_istore_n C dJ1_indexOf_4cfef_21 rfl (by decide))
    (zr_s (zq_iload_n C dJ1_indexOf_4cfef_22 rfl)
    (zr_s (zq_iload_n C dJ1_indexOf_4cfef_23 rfl)
    (zr_s (zq_icmp_lt C dJ1_indexOf_4cfef_24 (by decide))
    (zr_n (zr_n (zr_s (zq_iconst (n := .negSucc 0) C dJ1_indexOf_4cfef_27 (by decide))
    (zr_s (zk_ret1 (ty := .int) C hbc hbs rfl rfl (Or.inl ⟨dJ1_indexOf_4cfef_28, by decide⟩))
    (zr_s (zq_aload_n C dJ1_indexOf_4cfef_29 rfl)
    (zr_s (zq_iload_n C dJ1_indexOf_4cfef_30 rfl)
    (zr_s (zq_iload_n C dJ1_indexOf_4cfef_31 rfl)
    zr_0))))))))))))))))
  (zrs_c (zr_s (zq_iload_n C dJ1_indexOf_4cfef_32 rfl)
    (zr_s (zk_callS C zXX_ok zTs_good hbc hbs (show zget zprog 10 = some mJ1_indexOfChar_4cfef from rfl) rfl rfl zw153 zw151 zw152 zw6 (by decide +kernel) dJ1_indexOf_4cfef_33)
    (zr_n (zr_n (zr_s (zk_ret1 (ty := .int) C hbc hbs rfl rfl (Or.inl ⟨dJ1_indexOf_4cfef_36, by decide⟩))
    zr_0)))))
  zrs_0)))
set_option maxRecDepth 100000 in
set_option maxHeartbeats 4000000 in
theorem okJ3_checkFromToIndex_8c36e {l : Launch} {D : va_G} {tys : List (ClassId × FieldType)} {o : zO} {z : Nat} (E : zEnv tys) : zCodeOk l D vwCl tys o z (zXX o z) zTs zprog mJ3_checkFromToIndex_8c36e := by
  intro p e R s m args below meth c0 Q ws0 hbc hbs C pc sem h
  replace hbc : R.cells = 0 := hbc
  replace hbs : R.slots = 0 := hbs
  replace C : zCx p R s m args meth c0 D vwCl tys z (zXX o z) zTs RJ3 cJ3_checkFromToIndex_8c36e 4 "checkFromToIndex" := C
  refine zRows_get (P := fun pc sem => zOp p l e R s m args below meth c0 Q D vwCl tys o z (zXX o z) zTs zprog ws0 4 cJ3_checkFromToIndex_8c36e (some .int) pc sem) (c := kJ3_checkFromToIndex_8c36e) ?_ h
  unfold kJ3_checkFromToIndex_8c36e
  exact (zrs_c (zr_s (zq_iload_n C dJ3_checkFromToIndex_8c36e_0 rfl)
    (zr_s (zq_if_lt C dJ3_checkFromToIndex_8c36e_1 (by decide))
    (zr_n (zr_n (zr_s (zq_iload_n C dJ3_checkFromToIndex_8c36e_4 rfl)
    (zr_s (zq_iload_n C dJ3_checkFromToIndex_8c36e_5 rfl)
    (zr_s (zq_icmp_gt C dJ3_checkFromToIndex_8c36e_6 (by decide))
    (zr_n (zr_n (zr_s (zq_iload_n C dJ3_checkFromToIndex_8c36e_9 rfl)
    (zr_s (zq_iload_n C dJ3_checkFromToIndex_8c36e_10 rfl)
    (zr_s (zq_icmp_le C dJ3_checkFromToIndex_8c36e_11 (by decide))
    (zr_n (zr_n (zr_s (zq_aload_n C dJ3_checkFromToIndex_8c36e_14 rfl)
    (zr_s (zq_iload_n C dJ3_checkFromToIndex_8c36e_15 rfl)
    zr_0))))))))))))))))
  (zrs_c (zr_s (zq_iload_n C dJ3_checkFromToIndex_8c36e_16 rfl)
    (zr_s (zq_iload_n C dJ3_checkFromToIndex_8c36e_17 rfl)
    (zr_n (zr_n (zr_n (zr_n (zr_s (zq_iload_n C dJ3_checkFromToIndex_8c36e_22 rfl)
    (zr_s (zk_ret1 (ty := .int) C hbc hbs rfl rfl (Or.inl ⟨dJ3_checkFromToIndex_8c36e_23, by decide⟩))
    zr_0))))))))
  zrs_0))
set_option maxRecDepth 100000 in
set_option maxHeartbeats 4000000 in
theorem okJ3_checkIndex_8e157 {l : Launch} {D : va_G} {tys : List (ClassId × FieldType)} {o : zO} {z : Nat} (E : zEnv tys) : zCodeOk l D vwCl tys o z (zXX o z) zTs zprog mJ3_checkIndex_8e157 := by
  intro p e R s m args below meth c0 Q ws0 hbc hbs C pc sem h
  replace hbc : R.cells = 0 := hbc
  replace hbs : R.slots = 0 := hbs
  replace C : zCx p R s m args meth c0 D vwCl tys z (zXX o z) zTs RJ3 cJ3_checkIndex_8e157 3 "checkIndex" := C
  refine zRows_get (P := fun pc sem => zOp p l e R s m args below meth c0 Q D vwCl tys o z (zXX o z) zTs zprog ws0 3 cJ3_checkIndex_8e157 (some .int) pc sem) (c := kJ3_checkIndex_8e157) ?_ h
  unfold kJ3_checkIndex_8e157
  exact (zrs_c (zr_s (zq_iload_n C dJ3_checkIndex_8e157_0 rfl)
    (zr_s (zq_if_lt C dJ3_checkIndex_8e157_1 (by decide))
    (zr_n (zr_n (zr_s (zq_iload_n C dJ3_checkIndex_8e157_4 rfl)
    (zr_s (zq_iload_n C dJ3_checkIndex_8e157_5 rfl)
    (zr_s (zq_icmp_lt C dJ3_checkIndex_8e157_6 (by decide))
    (zr_n (zr_n (zr_s (zq_aload_n C dJ3_checkIndex_8e157_9 rfl)
    (zr_s (zq_iload_n C dJ3_checkIndex_8e157_10 rfl)
    (zr_s (zq_iload_n C dJ3_checkIndex_8e157_11 rfl)
    (zr_n (zr_n (zr_n (zr_n zr_0))))))))))))))))
  (zrs_c (zr_s (zq_iload_n C dJ3_checkIndex_8e157_16 rfl)
    (zr_s (zk_ret1 (ty := .int) C hbc hbs rfl rfl (Or.inl ⟨dJ3_checkIndex_8e157_17, by decide⟩))
    zr_0))
  zrs_0))
set_option maxRecDepth 100000 in
set_option maxHeartbeats 4000000 in
theorem okJ6_bitCount_0f7a4 {l : Launch} {D : va_G} {tys : List (ClassId × FieldType)} {o : zO} {z : Nat} (E : zEnv tys) : zCodeOk l D vwCl tys o z (zXX o z) zTs zprog mJ6_bitCount_0f7a4 := by
  intro p e R s m args below meth c0 Q ws0 hbc hbs C pc sem h
  replace hbc : R.cells = 0 := hbc
  replace hbs : R.slots = 0 := hbs
  replace C : zCx p R s m args meth c0 D vwCl tys z (zXX o z) zTs RJ6 cJ6_bitCount_0f7a4 1 "bitCount" := C
  refine zRows_get (P := fun pc sem => zOp p l e R s m args below meth c0 Q D vwCl tys o z (zXX o z) zTs zprog ws0 1 cJ6_bitCount_0f7a4 (some .int) pc sem) (c := kJ6_bitCount_0f7a4) ?_ h
  unfold kJ6_bitCount_0f7a4
  exact (zrs_c (zr_s (zq_iload_n C dJ6_bitCount_0f7a4_0 rfl)
    (zr_s (zq_iload_n C dJ6_bitCount_0f7a4_1 rfl)
    (zr_s (zq_iconst (n := .ofNat 1) C dJ6_bitCount_0f7a4_2 (by decide))
    (zr_s (zq_iushr C dJ6_bitCount_0f7a4_3)
    (zr_s (zq_ldc_w (n := .ofNat 1431655765) C dJ6_bitCount_0f7a4_4 zw565 (by decide +kernel))
    (zr_n (zr_n (zr_s (zq_iand C dJ6_bitCount_0f7a4_7)
    (zr_s (zk_sub C dJ6_bitCount_0f7a4_8)
    (zr_s (zq_istore_n C dJ6_bitCount_0f7a4_9 rfl (by decide))
    (zr_s (zq_iload_n C dJ6_bitCount_0f7a4_10 rfl)
    (zr_s (zq_ldc_w (n := .ofNat 858993459) C dJ6_bitCount_0f7a4_11 zw566 (by decide +kernel))
    (zr_n (zr_n (zr_s (zq_iand C dJ6_bitCount_0f7a4_14)
    (zr_s (zq_iload_n C dJ6_bitCount_0f7a4_15 rfl)
    zr_0))))))))))))))))
  (zrs_c (zr_s (zq_iconst (n := .ofNat 2) C dJ6_bitCount_0f7a4_16 (by decide))
    (zr_s (zq_iushr C dJ6_bitCount_0f7a4_17)
    (zr_s (zq_ldc_w (n := .ofNat 858993459) C dJ6_bitCount_0f7a4_18 zw566 (by decide +kernel))
    (zr_n (zr_n (zr_s (zq_iand C dJ6_bitCount_0f7a4_21)
    (zr_s (zk_add C dJ6_bitCount_0f7a4_22)
    (zr_s (zq_istore_n C dJ6_bitCount_0f7a4_23 rfl (by decide))
    (zr_s (zq_iload_n C dJ6_bitCount_0f7a4_24 rfl)
    (zr_s (zq_iload_n C dJ6_bitCount_0f7a4_25 rfl)
    (zr_s (zq_iconst (n := .ofNat 4) C dJ6_bitCount_0f7a4_26 (by decide))
    (zr_s (zq_iushr C dJ6_bitCount_0f7a4_27)
    (zr_s (zk_add C dJ6_bitCount_0f7a4_28)
    (zr_s (zq_ldc_w (n := .ofNat 252645135) C dJ6_bitCount_0f7a4_29 zw567 (by decide +kernel))
    (zr_n (zr_n zr_0))))))))))))))))
  (zrs_c (zr_s (zq_iand C dJ6_bitCount_0f7a4_32)
    (zr_s (zq_istore_n C dJ6_bitCount_0f7a4_33 rfl (by decide))
    (zr_s (zq_iload_n C dJ6_bitCount_0f7a4_34 rfl)
    (zr_s (zq_iload_n C dJ6_bitCount_0f7a4_35 rfl)
    (zr_s (zq_bipush (n := .ofNat 8) C dJ6_bitCount_0f7a4_36 (by decide) (by decide))
    (zr_n (zr_s (zq_iushr C dJ6_bitCount_0f7a4_38)
    (zr_s (zk_add C dJ6_bitCount_0f7a4_39)
    (zr_s (zq_istore_n C dJ6_bitCount_0f7a4_40 rfl (by decide))
    (zr_s (zq_iload_n C dJ6_bitCount_0f7a4_41 rfl)
    (zr_s (zq_iload_n C dJ6_bitCount_0f7a4_42 rfl)
    (zr_s (zq_bipush (n := .ofNat 16) C dJ6_bitCount_0f7a4_43 (by decide) (by decide))
    (zr_n (zr_s (zq_iushr C dJ6_bitCount_0f7a4_45)
    (zr_s (zk_add C dJ6_bitCount_0f7a4_46)
    (zr_s (zq_istore_n C dJ6_bitCount_0f7a4_47 rfl (by decide))
    zr_0))))))))))))))))
  (zrs_c (zr_s (zq_iload_n C dJ6_bitCount_0f7a4_48 rfl)
    (zr_s (zq_bipush (n := .ofNat 63) C dJ6_bitCount_0f7a4_49 (by decide) (by decide))
    (zr_n (zr_s (zq_iand C dJ6_bitCount_0f7a4_51)
    (zr_s (zk_ret1 (ty := .int) C hbc hbs rfl rfl (Or.inl ⟨dJ6_bitCount_0f7a4_52, by decide⟩))
    zr_0)))))
  zrs_0))))
set_option maxRecDepth 100000 in
set_option maxHeartbeats 4000000 in
theorem okJ6_numberOfTrailingZeros_0f7a4 {l : Launch} {D : va_G} {tys : List (ClassId × FieldType)} {o : zO} {z : Nat} (E : zEnv tys) : zCodeOk l D vwCl tys o z (zXX o z) zTs zprog mJ6_numberOfTrailingZeros_0f7a4 := by
  intro p e R s m args below meth c0 Q ws0 hbc hbs C pc sem h
  replace hbc : R.cells = 0 := hbc
  replace hbs : R.slots = 0 := hbs
  replace C : zCx p R s m args meth c0 D vwCl tys z (zXX o z) zTs RJ6 cJ6_numberOfTrailingZeros_0f7a4 2 "numberOfTrailingZeros" := C
  refine zRows_get (P := fun pc sem => zOp p l e R s m args below meth c0 Q D vwCl tys o z (zXX o z) zTs zprog ws0 2 cJ6_numberOfTrailingZeros_0f7a4 (some .int) pc sem) (c := kJ6_numberOfTrailingZeros_0f7a4) ?_ h
  unfold kJ6_numberOfTrailingZeros_0f7a4
  exact (zrs_c (zr_s (zq_iload_n C dJ6_numberOfTrailingZeros_0f7a4_0 rfl)
    (zr_s (zq_iconst (n := .negSucc 0) C dJ6_numberOfTrailingZeros_0f7a4_1 (by decide))
    (zr_s (zq_ixor C dJ6_numberOfTrailingZeros_0f7a4_2)
    (zr_s (zq_iload_n C dJ6_numberOfTrailingZeros_0f7a4_3 rfl)
    (zr_s (zq_iconst (n := .ofNat 1) C dJ6_numberOfTrailingZeros_0f7a4_4 (by decide))
    (zr_s (zk_sub C dJ6_numberOfTrailingZeros_0f7a4_5)
    (zr_s (zq_iand C dJ6_numberOfTrailingZeros_0f7a4_6)
    (zr_s (zq_istore_n C dJ6_numberOfTrailingZeros_0f7a4_7 rfl (by decide))
    (zr_s (zq_iload_n C dJ6_numberOfTrailingZeros_0f7a4_8 rfl)
    (zr_s (zq_if_gt C dJ6_numberOfTrailingZeros_0f7a4_9 (by decide))
    (zr_n (zr_n (zr_s (zq_iload_n C dJ6_numberOfTrailingZeros_0f7a4_12 rfl)
    (zr_s (zq_bipush (n := .ofNat 32) C dJ6_numberOfTrailingZeros_0f7a4_13 (by decide) (by decide))
    (zr_n (zr_s (zq_iand C dJ6_numberOfTrailingZeros_0f7a4_15)
    zr_0))))))))))))))))
  (zrs_c (zr_s (zk_ret1 (ty := .int) C hbc hbs rfl rfl (Or.inl ⟨dJ6_numberOfTrailingZeros_0f7a4_16, by decide⟩))
    (zr_s (zq_iconst (n := .ofNat 1) C dJ6_numberOfTrailingZeros_0f7a4_17 (by decide))
    (zr_s (zq_istore_n C dJ6_numberOfTrailingZeros_0f7a4_18 rfl (by decide))
    (zr_s (zq_iload_n C dJ6_numberOfTrailingZeros_0f7a4_19 rfl)
    (zr_s (zq_ldc_w (n := .ofNat 65536) C dJ6_numberOfTrailingZeros_0f7a4_20 zw1540 (by decide +kernel))
    (zr_n (zr_n (zr_s (zq_icmp_le C dJ6_numberOfTrailingZeros_0f7a4_23 (by decide))
    (zr_n (zr_n (zr_s (zk_inc (n := .ofNat 16) C dJ6_numberOfTrailingZeros_0f7a4_26 (by decide) (by decide))
    (zr_n (zr_n (zr_s (zq_iload_n C dJ6_numberOfTrailingZeros_0f7a4_29 rfl)
    (zr_s (zq_bipush (n := .ofNat 16) C dJ6_numberOfTrailingZeros_0f7a4_30 (by decide) (by decide))
    (zr_n zr_0))))))))))))))))
  (zrs_c (zr_s (zq_iushr C dJ6_numberOfTrailingZeros_0f7a4_32)
    (zr_s (zq_istore_n C dJ6_numberOfTrailingZeros_0f7a4_33 rfl (by decide))
    (zr_s (zq_iload_n C dJ6_numberOfTrailingZeros_0f7a4_34 rfl)
    (zr_s (zq_sipush (n := .ofNat 256) C dJ6_numberOfTrailingZeros_0f7a4_35 (by decide) (by decide))
    (zr_n (zr_n (zr_s (zq_icmp_le C dJ6_numberOfTrailingZeros_0f7a4_38 (by decide))
    (zr_n (zr_n (zr_s (zk_inc (n := .ofNat 8) C dJ6_numberOfTrailingZeros_0f7a4_41 (by decide) (by decide))
    (zr_n (zr_n (zr_s (zq_iload_n C dJ6_numberOfTrailingZeros_0f7a4_44 rfl)
    (zr_s (zq_bipush (n := .ofNat 8) C dJ6_numberOfTrailingZeros_0f7a4_45 (by decide) (by decide))
    (zr_n (zr_s (zq_iushr C dJ6_numberOfTrailingZeros_0f7a4_47)
    zr_0))))))))))))))))
  (zrs_c (zr_s (zq_istore_n C dJ6_numberOfTrailingZeros_0f7a4_48 rfl (by decide))
    (zr_s (zq_iload_n C dJ6_numberOfTrailingZeros_0f7a4_49 rfl)
    (zr_s (zq_bipush (n := .ofNat 16) C dJ6_numberOfTrailingZeros_0f7a4_50 (by decide) (by decide))
    (zr_n (zr_s (zq_icmp_le C dJ6_numberOfTrailingZeros_0f7a4_52 (by decide))
    (zr_n (zr_n (zr_s (zk_inc (n := .ofNat 4) C dJ6_numberOfTrailingZeros_0f7a4_55 (by decide) (by decide))
    (zr_n (zr_n (zr_s (zq_iload_n C dJ6_numberOfTrailingZeros_0f7a4_58 rfl)
    (zr_s (zq_iconst (n := .ofNat 4) C dJ6_numberOfTrailingZeros_0f7a4_59 (by decide))
    (zr_s (zq_iushr C dJ6_numberOfTrailingZeros_0f7a4_60)
    (zr_s (zq_istore_n C dJ6_numberOfTrailingZeros_0f7a4_61 rfl (by decide))
    (zr_s (zq_iload_n C dJ6_numberOfTrailingZeros_0f7a4_62 rfl)
    (zr_s (zq_iconst (n := .ofNat 4) C dJ6_numberOfTrailingZeros_0f7a4_63 (by decide))
    zr_0))))))))))))))))
  (zrs_c (zr_s (zq_icmp_le C dJ6_numberOfTrailingZeros_0f7a4_64 (by decide))
    (zr_n (zr_n (zr_s (zk_inc (n := .ofNat 2) C dJ6_numberOfTrailingZeros_0f7a4_67 (by decide) (by decide))
    (zr_n (zr_n (zr_s (zq_iload_n C dJ6_numberOfTrailingZeros_0f7a4_70 rfl)
    (zr_s (zq_iconst (n := .ofNat 2) C dJ6_numberOfTrailingZeros_0f7a4_71 (by decide))
    (zr_s (zq_iushr C dJ6_numberOfTrailingZeros_0f7a4_72)
    (zr_s (zq_istore_n C dJ6_numberOfTrailingZeros_0f7a4_73 rfl (by decide))
    (zr_s (zq_iload_n C dJ6_numberOfTrailingZeros_0f7a4_74 rfl)
    (zr_s (zq_iload_n C dJ6_numberOfTrailingZeros_0f7a4_75 rfl)
    (zr_s (zq_iconst (n := .ofNat 1) C dJ6_numberOfTrailingZeros_0f7a4_76 (by decide))
    (zr_s (zq_iushr C dJ6_numberOfTrailingZeros_0f7a4_77)
    (zr_s (zk_add C dJ6_numberOfTrailingZeros_0f7a4_78)
    (zr_s (zk_ret1 (ty := .int) C hbc hbs rfl rfl (Or.inl ⟨dJ6_numberOfTrailingZeros_0f7a4_79, by decide⟩))
    zr_0))))))))))))))))
  zrs_0)))))
set_option maxRecDepth 100000 in
set_option maxHeartbeats 4000000 in
theorem okJ7_fill_53178 {l : Launch} {D : va_G} {tys : List (ClassId × FieldType)} {o : zO} {z : Nat} (E : zEnv tys) : zCodeOk l D vwCl tys o z (zXX o z) zTs zprog mJ7_fill_53178 := by
  intro p e R s m args below meth c0 Q ws0 hbc hbs C pc sem h
  replace hbc : R.cells = 0 := hbc
  replace hbs : R.slots = 0 := hbs
  replace C : zCx p R s m args meth c0 D vwCl tys z (zXX o z) zTs RJ7 cJ7_fill_53178 4 "fill" := C
  refine zRows_get (P := fun pc sem => zOp p l e R s m args below meth c0 Q D vwCl tys o z (zXX o z) zTs zprog ws0 4 cJ7_fill_53178 none pc sem) (c := kJ7_fill_53178) ?_ h
  unfold kJ7_fill_53178
  exact (zrs_c (zr_s (zq_iconst (n := .ofNat 0) C dJ7_fill_53178_0 (by decide))
    (zr_s (zq_istore_n C dJ7_fill_53178_1 rfl (by decide))
    (zr_s (zq_aload_n C dJ7_fill_53178_2 rfl)
    (zr_s (zk_len C dJ7_fill_53178_3)
    (zr_s (zq_istore_n C dJ7_fill_53178_4 rfl (by decide))
    (zr_s (zq_iload_n C dJ7_fill_53178_5 rfl)
    (zr_s (zq_iload_n C dJ7_fill_53178_6 rfl)
    (zr_s (zq_icmp_ge C dJ7_fill_53178_7 (by decide))
    (zr_n (zr_n (zr_s (zq_aload_n C dJ7_fill_53178_10 rfl)
    (zr_s (zq_iload_n C dJ7_fill_53178_11 rfl)
    (zr_s (zq_iload_n C dJ7_fill_53178_12 rfl)
    (zr_s (zk_iast C dJ7_fill_53178_13)
    (zr_s (zk_inc (n := .ofNat 1) C dJ7_fill_53178_14 (by decide) (by decide))
    (zr_n zr_0))))))))))))))))
  (zrs_c (zr_n (zr_s (zk_goto C dJ7_fill_53178_17 (by decide))
    (zr_n (zr_n (zr_s (zk_ret0 C hbc hbs rfl dJ7_fill_53178_20)
    zr_0)))))
  zrs_0))
set_option maxRecDepth 100000 in
set_option maxHeartbeats 4000000 in
theorem okJ7_fill_d0a16 {l : Launch} {D : va_G} {tys : List (ClassId × FieldType)} {o : zO} {z : Nat} (E : zEnv tys) : zCodeOk l D vwCl tys o z (zXX o z) zTs zprog mJ7_fill_d0a16 := by
  intro p e R s m args below meth c0 Q ws0 hbc hbs C pc sem h
  replace hbc : R.cells = 0 := hbc
  replace hbs : R.slots = 0 := hbs
  replace C : zCx p R s m args meth c0 D vwCl tys z (zXX o z) zTs RJ7 cJ7_fill_d0a16 5 "fill" := C
  refine zRows_get (P := fun pc sem => zOp p l e R s m args below meth c0 Q D vwCl tys o z (zXX o z) zTs zprog ws0 5 cJ7_fill_d0a16 none pc sem) (c := kJ7_fill_d0a16) ?_ h
  unfold kJ7_fill_d0a16
  exact (zrs_c (zr_s (zq_iconst (n := .ofNat 0) C dJ7_fill_d0a16_0 (by decide))
    (zr_s (zq_istore_n C dJ7_fill_d0a16_1 rfl (by decide))
    (zr_s (zq_aload_n C dJ7_fill_d0a16_2 rfl)
    (zr_s (zk_len C dJ7_fill_d0a16_3)
    (zr_s (zq_istore C dJ7_fill_d0a16_4 (by decide))
    (zr_n (zr_s (zq_iload_n C dJ7_fill_d0a16_6 rfl)
    (zr_s (zq_iload C dJ7_fill_d0a16_7)
    (zr_n (zr_s (zq_icmp_ge C dJ7_fill_d0a16_9 (by decide))
    (zr_n (zr_n (zr_s (zq_aload_n C dJ7_fill_d0a16_12 rfl)
    (zr_s (zq_iload_n C dJ7_fill_d0a16_13 rfl)
    (zr_s (zq_lload_n C dJ7_fill_d0a16_14 rfl)
    (zr_s (zk_last C dJ7_fill_d0a16_15)
    zr_0))))))))))))))))
  (zrs_c (zr_s (zk_inc (n := .ofNat 1) C dJ7_fill_d0a16_16 (by decide) (by decide))
    (zr_n (zr_n (zr_s (zk_goto C dJ7_fill_d0a16_19 (by decide))
    (zr_n (zr_n (zr_s (zk_ret0 C hbc hbs rfl dJ7_fill_d0a16_22)
    zr_0)))))))
  zrs_0))
set_option maxRecDepth 100000 in
set_option maxHeartbeats 4000000 in
theorem okX0_areTwo {l : Launch} {D : va_G} {tys : List (ClassId × FieldType)} {o : zO} {z : Nat} (E : zEnv tys) : zCodeOk l D vwCl tys o z (zXX o z) zTs zprog mX0_areTwo := by
  intro p e R s m args below meth c0 Q ws0 hbc hbs C pc sem h
  replace hbc : R.cells = 0 := hbc
  replace hbs : R.slots = 0 := hbs
  replace C : zCx p R s m args meth c0 D vwCl tys z (zXX o z) zTs RX0 cX0_areTwo 3 "areTwo" := C
  refine zRows_get (P := fun pc sem => zOp p l e R s m args below meth c0 Q D vwCl tys o z (zXX o z) zTs zprog ws0 3 cX0_areTwo (some .boolean) pc sem) (c := kX0_areTwo) ?_ h
  unfold kX0_areTwo
  exact (zrs_c (zr_s (zq_aload_n C dX0_areTwo_0 rfl)
    (zr_s (zq_iload_n C dX0_areTwo_1 rfl)
    (zr_s (zk_callV (n := 1) C zXX_ok zTs_good hbc hbs (show zget zprog 19 = some mX0_has from rfl) rfl rfl (show vwCl[0]? = some (RX0, TX0, 12) from rfl) zw550 zw636 zw549 zs23 zw3 (by decide +kernel) dX0_areTwo_2)
    (zr_n (zr_n (zr_s (zq_if_eq C dX0_areTwo_5 (by decide))
    (zr_n (zr_n (zr_n (zr_n (zr_n (zr_n (zr_n (zr_n (zr_n (zr_n zr_0))))))))))))))))
  (zrs_c (zr_n (zr_n (zr_n (zr_n (zr_n (zr_n (zr_n (zr_n (zr_n (zr_s (zq_iconst (n := .ofNat 0) C dX0_areTwo_25 (by decide))
    (zr_s (zk_ret1 (ty := .boolean) C hbc hbs rfl rfl (Or.inl ⟨dX0_areTwo_26, by decide⟩))
    zr_0)))))))))))
  zrs_0))
set_option maxRecDepth 100000 in
set_option maxHeartbeats 4000000 in
theorem okX0_has {l : Launch} {D : va_G} {tys : List (ClassId × FieldType)} {o : zO} {z : Nat} (E : zEnv tys) : zCodeOk l D vwCl tys o z (zXX o z) zTs zprog mX0_has := by
  intro p e R s m args below meth c0 Q ws0 hbc hbs C pc sem h
  replace hbc : R.cells = 0 := hbc
  replace hbs : R.slots = 0 := hbs
  replace C : zCx p R s m args meth c0 D vwCl tys z (zXX o z) zTs RX0 cX0_has 2 "has" := C
  refine zRows_get (P := fun pc sem => zOp p l e R s m args below meth c0 Q D vwCl tys o z (zXX o z) zTs zprog ws0 2 cX0_has (some .boolean) pc sem) (c := kX0_has) ?_ h
  unfold kX0_has
  exact (zrs_c (zr_s (zq_iload_n C dX0_has_0 rfl)
    (zr_s (zq_if_lt C dX0_has_1 (by decide))
    (zr_n (zr_n (zr_s (zq_iload_n C dX0_has_4 rfl)
    (zr_s (zq_aload_n C dX0_has_5 rfl)
    (zr_s (zq_get (k := 6) C dX0_has_6 (show vwCl[0]? = some (RX0, TX0, 12) from rfl) zinX0 (by decide) zw255)
    (zr_n (zr_n (zr_s (zq_icmp_ge C dX0_has_9 (by decide))
    (zr_n (zr_n (zr_n (zr_n (zr_n (zr_n zr_0))))))))))))))))
  (zrs_c (zr_s (zq_iconst (n := .ofNat 0) C dX0_has_16 (by decide))
    (zr_s (zk_ret1 (ty := .boolean) C hbc hbs rfl rfl (Or.inl ⟨dX0_has_17, by decide⟩))
    zr_0))
  zrs_0))
set_option maxRecDepth 100000 in
set_option maxHeartbeats 4000000 in
theorem okX0_init {l : Launch} {D : va_G} {tys : List (ClassId × FieldType)} {o : zO} {z : Nat} (E : zEnv tys) : zCodeOk l D vwCl tys o z (zXX o z) zTs zprog mX0_init := by
  intro p e R s m args below meth c0 Q ws0 hbc hbs C pc sem h
  replace hbc : R.cells = 11 := hbc
  replace hbs : R.slots = 181 := hbs
  replace C : zCx p R s m args meth c0 D vwCl tys z (zXX o z) zTs RX0 cX0_init 1 "<init>" := C
  refine zRows_get (P := fun pc sem => zOp p l e R s m args below meth c0 Q D vwCl tys o z (zXX o z) zTs zprog ws0 1 cX0_init none pc sem) (c := kX0_init) ?_ h
  unfold kX0_init
  exact (zrs_c (zr_s (zq_aload_n C dX0_init_0 rfl)
    (zr_s (zk_objInit C dX0_init_1 zw53 zw29 zw30)
    (zr_n (zr_n (zr_s (zq_aload_n C dX0_init_4 rfl)
    (zr_s (zq_bipush (n := .ofNat 8) C dX0_init_5 (by decide) (by decide))
    (zr_n (zr_s (zq_newI C hbc hbs dX0_init_7 zw47 E.1)
    (zr_n (zr_s (zq_putF (k := 0) C dX0_init_9 (show vwCl[0]? = some (RX0, TX0, 12) from rfl) zinX0 tyX0 tyX0_ok nmX0 (by decide) zw246 rfl rfl rfl (ty := (.array .int)) (by decide +kernel) rfl)
    (zr_n (zr_n (zr_s (zq_aload_n C dX0_init_12 rfl)
    (zr_s (zq_bipush (n := .ofNat 8) C dX0_init_13 (by decide) (by decide))
    (zr_n (zr_s (zq_newI C hbc hbs dX0_init_15 zw47 E.1)
    zr_0))))))))))))))))
  (zrs_c (zr_n (zr_s (zq_putF (k := 1) C dX0_init_17 (show vwCl[0]? = some (RX0, TX0, 12) from rfl) zinX0 tyX0 tyX0_ok nmX0 (by decide) zw248 rfl rfl rfl (ty := (.array .int)) (by decide +kernel) rfl)
    (zr_n (zr_n (zr_s (zq_aload_n C dX0_init_20 rfl)
    (zr_s (zq_bipush (n := .ofNat 8) C dX0_init_21 (by decide) (by decide))
    (zr_n (zr_s (zq_newI C hbc hbs dX0_init_23 zw47 E.1)
    (zr_n (zr_s (zq_putF (k := 2) C dX0_init_25 (show vwCl[0]? = some (RX0, TX0, 12) from rfl) zinX0 tyX0 tyX0_ok nmX0 (by decide) zw250 rfl rfl rfl (ty := (.array .int)) (by decide +kernel) rfl)
    (zr_n (zr_n (zr_s (zq_aload_n C dX0_init_28 rfl)
    (zr_s (zq_bipush (n := .ofNat 7) C dX0_init_29 (by decide) (by decide))
    (zr_n (zr_s (zq_newI C hbc hbs dX0_init_31 zw47 E.1)
    zr_0))))))))))))))))
  (zrs_c (zr_n (zr_s (zq_putF (k := 3) C dX0_init_33 (show vwCl[0]? = some (RX0, TX0, 12) from rfl) zinX0 tyX0 tyX0_ok nmX0 (by decide) zw252 rfl rfl rfl (ty := (.array .int)) (by decide +kernel) rfl)
    (zr_n (zr_n (zr_s (zq_aload_n C dX0_init_36 rfl)
    (zr_s (zq_bipush (n := .ofNat 8) C dX0_init_37 (by decide) (by decide))
    (zr_n (zr_s (zq_newI C hbc hbs dX0_init_39 zw47 E.1)
    (zr_n (zr_s (zq_putF (k := 4) C dX0_init_41 (show vwCl[0]? = some (RX0, TX0, 12) from rfl) zinX0 tyX0 tyX0_ok nmX0 (by decide) zw253 rfl rfl rfl (ty := (.array .int)) (by decide +kernel) rfl)
    (zr_n (zr_n (zr_s (zq_aload_n C dX0_init_44 rfl)
    (zr_s (zq_bipush (n := .ofNat 8) C dX0_init_45 (by decide) (by decide))
    (zr_n (zr_s (zq_newI C hbc hbs dX0_init_47 zw47 E.1)
    zr_0))))))))))))))))
  (zrs_c (zr_n (zr_s (zq_putF (k := 5) C dX0_init_49 (show vwCl[0]? = some (RX0, TX0, 12) from rfl) zinX0 tyX0 tyX0_ok nmX0 (by decide) zw254 rfl rfl rfl (ty := (.array .int)) (by decide +kernel) rfl)
    (zr_n (zr_n (zr_s (zq_aload_n C dX0_init_52 rfl)
    (zr_s (zq_bipush (n := .ofNat 8) C dX0_init_53 (by decide) (by decide))
    (zr_n (zr_s (zq_put (k := 7) C dX0_init_55 (show vwCl[0]? = some (RX0, TX0, 12) from rfl) zinX0 tyX0 tyX0_ok nmX0 (by decide) zw257 rfl (ty := .int) (by decide +kernel) rfl)
    (zr_n (zr_n (zr_s (zq_aload_n C dX0_init_58 rfl)
    (zr_s (zq_iconst (n := .ofNat 4) C dX0_init_59 (by decide))
    (zr_s (zq_put (k := 8) C dX0_init_60 (show vwCl[0]? = some (RX0, TX0, 12) from rfl) zinX0 tyX0 tyX0_ok nmX0 (by decide) zw259 rfl (ty := .int) (by decide +kernel) rfl)
    (zr_n (zr_n (zr_s (zq_aload_n C dX0_init_63 rfl)
    zr_0))))))))))))))))
  (zrs_c (zr_s (zk_new C hbc hbs dX0_init_64 (show vwCl[3]? = some (RX3, TX3, 9) from rfl) zinX3 tyX3 tyX3_ok zw54 zw55 zw4 zdfX3 (fun ad => zfrX3 o ad))
    (zr_n (zr_n (zr_s (zk_dup C dX0_init_67)
    (zr_s (zk_callIN (n := 0) C zXX_ok zTs_good hbc hbs (show zget zprog 40 = some mX3_init from rfl) rfl rfl rfl zw58 (fun U H h => zn5 h) zw57 zw4 rfl (by decide +kernel) dX0_init_68)
    (zr_n (zr_n (zr_s (zq_put (k := 9) C dX0_init_71 (show vwCl[0]? = some (RX0, TX0, 12) from rfl) zinX0 tyX0 tyX0_ok nmX0 (by decide) zw261 rfl (ty := (.object "RockingHorse$Rule")) (by decide +kernel) rfl)
    (zr_n (zr_n (zr_s (zk_ret0 C hbc hbs rfl dX0_init_74)
    zr_0)))))))))))
  zrs_0)))))
set_option maxRecDepth 100000 in
set_option maxHeartbeats 4000000 in
theorem okX0_isAble {l : Launch} {D : va_G} {tys : List (ClassId × FieldType)} {o : zO} {z : Nat} (E : zEnv tys) : zCodeOk l D vwCl tys o z (zXX o z) zTs zprog mX0_isAble := by
  intro p e R s m args below meth c0 Q ws0 hbc hbs C pc sem h
  replace hbc : R.cells = 0 := hbc
  replace hbs : R.slots = 0 := hbs
  replace C : zCx p R s m args meth c0 D vwCl tys z (zXX o z) zTs RX0 cX0_isAble 4 "isAble" := C
  refine zRows_get (P := fun pc sem => zOp p l e R s m args below meth c0 Q D vwCl tys o z (zXX o z) zTs zprog ws0 4 cX0_isAble (some .boolean) pc sem) (c := kX0_isAble) ?_ h
  unfold kX0_isAble
  exact (zrs_c (zr_s (zq_aload_n C dX0_isAble_0 rfl)
    (zr_s (zq_iload_n C dX0_isAble_1 rfl)
    (zr_s (zk_callV (n := 1) C zXX_ok zTs_good hbc hbs (show zget zprog 19 = some mX0_has from rfl) rfl rfl (show vwCl[0]? = some (RX0, TX0, 12) from rfl) zw550 zw636 zw549 zs23 zw3 (by decide +kernel) dX0_isAble_2)
    (zr_n (zr_n (zr_s (zq_if_eq C dX0_isAble_5 (by decide))
    (zr_n (zr_n (zr_n (zr_n (zr_n (zr_n (zr_n (zr_n (zr_n (zr_n zr_0))))))))))))))))
  (zrs_c (zr_n (zr_n (zr_n (zr_n (zr_n (zr_n (zr_n (zr_n (zr_n (zr_n (zr_n (zr_n (zr_n (zr_n (zr_n (zr_n zr_0))))))))))))))))
  (zrs_c (zr_n (zr_n (zr_s (zq_iconst (n := .ofNat 0) C dX0_isAble_34 (by decide))
    (zr_s (zk_ret1 (ty := .boolean) C hbc hbs rfl rfl (Or.inl ⟨dX0_isAble_35, by decide⟩))
    zr_0))))
  zrs_0)))
set_option maxRecDepth 100000 in
set_option maxHeartbeats 4000000 in
theorem okX0_isSomebodyOrNobody {l : Launch} {D : va_G} {tys : List (ClassId × FieldType)} {o : zO} {z : Nat} (E : zEnv tys) : zCodeOk l D vwCl tys o z (zXX o z) zTs zprog mX0_isSomebodyOrNobody := by
  intro p e R s m args below meth c0 Q ws0 hbc hbs C pc sem h
  replace hbc : R.cells = 0 := hbc
  replace hbs : R.slots = 0 := hbs
  replace C : zCx p R s m args meth c0 D vwCl tys z (zXX o z) zTs RX0 cX0_isSomebodyOrNobody 2 "isSomebodyOrNobody" := C
  refine zRows_get (P := fun pc sem => zOp p l e R s m args below meth c0 Q D vwCl tys o z (zXX o z) zTs zprog ws0 2 cX0_isSomebodyOrNobody (some .boolean) pc sem) (c := kX0_isSomebodyOrNobody) ?_ h
  unfold kX0_isSomebodyOrNobody
  exact (zrs_c (zr_s (zq_iload_n C dX0_isSomebodyOrNobody_0 rfl)
    (zr_s (zq_iconst (n := .negSucc 0) C dX0_isSomebodyOrNobody_1 (by decide))
    (zr_s (zq_icmp_eq C dX0_isSomebodyOrNobody_2 (by decide))
    (zr_n (zr_n (zr_s (zq_aload_n C dX0_isSomebodyOrNobody_5 rfl)
    (zr_s (zq_iload_n C dX0_isSomebodyOrNobody_6 rfl)
    (zr_s (zk_callV (n := 1) C zXX_ok zTs_good hbc hbs (show zget zprog 19 = some mX0_has from rfl) rfl rfl (show vwCl[0]? = some (RX0, TX0, 12) from rfl) zw550 zw636 zw549 zs23 zw3 (by decide +kernel) dX0_isSomebodyOrNobody_7)
    (zr_n (zr_n (zr_s (zq_if_eq C dX0_isSomebodyOrNobody_10 (by decide))
    (zr_n (zr_n (zr_s (zq_iconst (n := .ofNat 1) C dX0_isSomebodyOrNobody_13 (by decide))
    (zr_s (zk_goto C dX0_isSomebodyOrNobody_14 (by decide))
    (zr_n zr_0))))))))))))))))
  (zrs_c (zr_n (zr_s (zq_iconst (n := .ofNat 0) C dX0_isSomebodyOrNobody_17 (by decide))
    (zr_s (zk_ret1 (ty := .boolean) C hbc hbs rfl rfl (Or.inl ⟨dX0_isSomebodyOrNobody_18, by decide⟩))
    zr_0)))
  zrs_0))
set_option maxRecDepth 100000 in
set_option maxHeartbeats 4000000 in
theorem okX0_pass {l : Launch} {D : va_G} {tys : List (ClassId × FieldType)} {o : zO} {z : Nat} (E : zEnv tys) : zCodeOk l D vwCl tys o z (zXX o z) zTs zprog mX0_pass := by
  intro p e R s m args below meth c0 Q ws0 hbc hbs C pc sem h
  replace hbc : R.cells = 0 := hbc
  replace hbs : R.slots = 0 := hbs
  replace C : zCx p R s m args meth c0 D vwCl tys z (zXX o z) zTs RX0 cX0_pass 4 "pass" := C
  refine zRows_get (P := fun pc sem => zOp p l e R s m args below meth c0 Q D vwCl tys o z (zXX o z) zTs zprog ws0 4 cX0_pass none pc sem) (c := kX0_pass) ?_ h
  unfold kX0_pass
  exact (zrs_c (zr_s (zq_aload_n C dX0_pass_0 rfl)
    (zr_s (zq_aload_n C dX0_pass_1 rfl)
    (zr_s (zk_callV (n := 1) C zXX_ok zTs_good hbc hbs (show zget zprog 26 = some mX0_watch from rfl) rfl rfl (show vwCl[0]? = some (RX0, TX0, 12) from rfl) zw661 zw658 zw660 zs37 zw3 (by decide +kernel) dX0_pass_2)
    (zr_n (zr_n (zr_s (zq_aload_n C dX0_pass_5 rfl)
    (zr_s (zq_get (k := 5) C dX0_pass_6 (show vwCl[0]? = some (RX0, TX0, 12) from rfl) zinX0 (by decide) zw254)
    (zr_n (zr_n (zr_s (zq_iconst (n := .ofNat 0) C dX0_pass_9 (by decide))
    (zr_s (zk_callS C zXX_ok zTs_good hbc hbs (show zget zprog 16 = some mJ7_fill_53178 from rfl) rfl rfl zw300 zw662 zw299 zw12 (by decide +kernel) dX0_pass_10)
    (zr_n (zr_n (zr_s (zq_iconst (n := .ofNat 0) C dX0_pass_13 (by decide))
    (zr_s (zq_istore_n C dX0_pass_14 rfl (by decide))
    (zr_s (zq_iload_n C dX0_pass_15 rfl)
    zr_0))))))))))))))))
  (zrs_c (zr_s (zq_aload_n C dX0_pass_16 rfl)
    (zr_s (zq_get (k := 7) C dX0_pass_17 (show vwCl[0]? = some (RX0, TX0, 12) from rfl) zinX0 (by decide) zw257)
    (zr_n (zr_n (zr_s (zq_icmp_ge C dX0_pass_20 (by decide))
    (zr_n (zr_n (zr_s (zq_aload_n C dX0_pass_23 rfl)
    (zr_s (zq_getN (k := 0) C dX0_pass_24 (show vwCl[5]? = some (RX5, TX5, 6) from rfl) zinX5 (by decide) (fun U H h => zn18 h))
    (zr_n (zr_n (zr_s (zq_iload_n C dX0_pass_27 rfl)
    (zr_s (zk_iald C dX0_pass_28)
    (zr_s (zq_istore_n C dX0_pass_29 rfl (by decide))
    (zr_s (zq_aload_n C dX0_pass_30 rfl)
    (zr_s (zq_get (k := 11) C dX0_pass_31 (show vwCl[0]? = some (RX0, TX0, 12) from rfl) zinX0 (by decide) zw265)
    zr_0))))))))))))))))
  (zrs_c (zr_n (zr_n (zr_s (zq_iload_n C dX0_pass_34 rfl)
    (zr_s (zq_ishr C dX0_pass_35)
    (zr_s (zq_iconst (n := .ofNat 1) C dX0_pass_36 (by decide))
    (zr_s (zq_iand C dX0_pass_37)
    (zr_s (zq_iconst (n := .ofNat 1) C dX0_pass_38 (by decide))
    (zr_s (zq_icmp_ne C dX0_pass_39 (by decide))
    (zr_n (zr_n (zr_n (zr_n (zr_n (zr_n (zr_n (zr_n zr_0))))))))))))))))
  (zrs_c (zr_n (zr_n (zr_n (zr_n (zr_n (zr_n (zr_n (zr_n (zr_n (zr_n (zr_n (zr_n (zr_n (zr_n (zr_n (zr_n zr_0))))))))))))))))
  (zrs_c (zr_n (zr_n (zr_n (zr_n (zr_n (zr_n (zr_s (zk_inc (n := .ofNat 1) C dX0_pass_70 (by decide) (by decide))
    (zr_n (zr_n (zr_s (zk_goto C dX0_pass_73 (by decide))
    (zr_n (zr_n (zr_s (zq_iconst (n := .ofNat 0) C dX0_pass_76 (by decide))
    (zr_s (zq_istore_n C dX0_pass_77 rfl (by decide))
    (zr_s (zq_iload_n C dX0_pass_78 rfl)
    (zr_s (zq_aload_n C dX0_pass_79 rfl)
    zr_0))))))))))))))))
  (zrs_c (zr_s (zq_get (k := 6) C dX0_pass_80 (show vwCl[0]? = some (RX0, TX0, 12) from rfl) zinX0 (by decide) zw255)
    (zr_n (zr_n (zr_s (zq_icmp_ge C dX0_pass_83 (by decide))
    (zr_n (zr_n (zr_n (zr_n (zr_n (zr_n (zr_n (zr_n (zr_n (zr_n (zr_n (zr_n zr_0))))))))))))))))
  (zrs_c (zr_n (zr_n (zr_n (zr_n (zr_n (zr_n (zr_n (zr_n (zr_n (zr_n (zr_n (zr_n (zr_n (zr_n (zr_n (zr_n zr_0))))))))))))))))
  (zrs_c (zr_n (zr_n (zr_n (zr_n (zr_n (zr_n (zr_n (zr_n (zr_n (zr_n (zr_n (zr_n (zr_n (zr_n (zr_n (zr_n zr_0))))))))))))))))
  (zrs_c (zr_n (zr_n (zr_n (zr_n (zr_n (zr_n (zr_n (zr_n (zr_n (zr_n (zr_n (zr_s (zq_aload_n C dX0_pass_139 rfl)
    (zr_s (zk_dup C dX0_pass_140)
    (zr_s (zq_getN (k := 4) C dX0_pass_141 (show vwCl[5]? = some (RX5, TX5, 6) from rfl) zinX5 (by decide) (fun U H h => zn25 h))
    (zr_n (zr_n zr_0))))))))))))))))
  (zrs_c (zr_s (zq_aload_n C dX0_pass_144 rfl)
    (zr_s (zq_get (k := 10) C dX0_pass_145 (show vwCl[0]? = some (RX0, TX0, 12) from rfl) zinX0 (by decide) zw263)
    (zr_n (zr_n (zr_s (zk_callS C zXX_ok zTs_good hbc hbs (show zget zprog 14 = some mJ6_bitCount_0f7a4 from rfl) rfl rfl zw564 zw562 zw563 zw21 (by decide +kernel) dX0_pass_148)
    (zr_n (zr_n (zr_s (zk_add C dX0_pass_151)
    (zr_s (zq_putN (k := 4) C dX0_pass_152 (show vwCl[5]? = some (RX5, TX5, 6) from rfl) zinX5 tyX5 tyX5_ok nmX5 (by decide) (fun U H h => zn25 h) rfl (ty := .int) (by decide +kernel) rfl)
    (zr_n (zr_n (zr_s (zq_aload_n C dX0_pass_155 rfl)
    (zr_s (zk_dup C dX0_pass_156)
    (zr_s (zq_getN (k := 5) C dX0_pass_157 (show vwCl[5]? = some (RX5, TX5, 6) from rfl) zinX5 (by decide) (fun U H h => zn27 h))
    (zr_n (zr_n zr_0))))))))))))))))
  (zrs_c (zr_s (zq_aload_n C dX0_pass_160 rfl)
    (zr_s (zq_get (k := 11) C dX0_pass_161 (show vwCl[0]? = some (RX0, TX0, 12) from rfl) zinX0 (by decide) zw265)
    (zr_n (zr_n (zr_s (zk_callS C zXX_ok zTs_good hbc hbs (show zget zprog 14 = some mJ6_bitCount_0f7a4 from rfl) rfl rfl zw564 zw562 zw563 zw21 (by decide +kernel) dX0_pass_164)
    (zr_n (zr_n (zr_s (zk_add C dX0_pass_167)
    (zr_s (zq_putN (k := 5) C dX0_pass_168 (show vwCl[5]? = some (RX5, TX5, 6) from rfl) zinX5 tyX5 tyX5_ok nmX5 (by decide) (fun U H h => zn27 h) rfl (ty := .int) (by decide +kernel) rfl)
    (zr_n (zr_n (zr_s (zq_aload_n C dX0_pass_171 rfl)
    (zr_s (zk_dup C dX0_pass_172)
    (zr_s (zq_getN (k := 3) C dX0_pass_173 (show vwCl[5]? = some (RX5, TX5, 6) from rfl) zinX5 (by decide) (fun U H h => zn22 h))
    (zr_n (zr_n zr_0))))))))))))))))
  (zrs_c (zr_s (zq_iconst (n := .ofNat 1) C dX0_pass_176 (by decide))
    (zr_s (zk_add C dX0_pass_177)
    (zr_s (zq_putN (k := 3) C dX0_pass_178 (show vwCl[5]? = some (RX5, TX5, 6) from rfl) zinX5 tyX5 tyX5_ok nmX5 (by decide) (fun U H h => zn22 h) rfl (ty := .int) (by decide +kernel) rfl)
    (zr_n (zr_n (zr_s (zk_ret0 C hbc hbs rfl dX0_pass_181)
    zr_0))))))
  zrs_0))))))))))))
set_option maxRecDepth 100000 in
set_option maxHeartbeats 4000000 in
theorem okX0_passAll {l : Launch} {D : va_G} {tys : List (ClassId × FieldType)} {o : zO} {z : Nat} (E : zEnv tys) : zCodeOk l D vwCl tys o z (zXX o z) zTs zprog mX0_passAll := by
  intro p e R s m args below meth c0 Q ws0 hbc hbs C pc sem h
  replace hbc : R.cells = 0 := hbc
  replace hbs : R.slots = 0 := hbs
  replace C : zCx p R s m args meth c0 D vwCl tys z (zXX o z) zTs RX0 cX0_passAll 4 "passAll" := C
  refine zRows_get (P := fun pc sem => zOp p l e R s m args below meth c0 Q D vwCl tys o z (zXX o z) zTs zprog ws0 4 cX0_passAll none pc sem) (c := kX0_passAll) ?_ h
  unfold kX0_passAll
  exact (zrs_c (zr_s (zq_iconst (n := .ofNat 0) C dX0_passAll_0 (by decide))
    (zr_s (zq_istore_n C dX0_passAll_1 rfl (by decide))
    (zr_s (zq_iload_n C dX0_passAll_2 rfl)
    (zr_s (zq_iload_n C dX0_passAll_3 rfl)
    (zr_s (zq_icmp_ge C dX0_passAll_4 (by decide))
    (zr_n (zr_n (zr_s (zq_aload_n C dX0_passAll_7 rfl)
    (zr_s (zq_aload_n C dX0_passAll_8 rfl)
    (zr_s (zk_callV (n := 1) C zXX_ok zTs_good hbc hbs (show zget zprog 23 = some mX0_pass from rfl) rfl rfl (show vwCl[0]? = some (RX0, TX0, 12) from rfl) zw657 zw654 zw656 zs36 zw3 (by decide +kernel) dX0_passAll_9)
    (zr_n (zr_n (zr_s (zk_inc (n := .ofNat 1) C dX0_passAll_12 (by decide) (by decide))
    (zr_n (zr_n (zr_s (zk_goto C dX0_passAll_15 (by decide))
    zr_0))))))))))))))))
  (zrs_c (zr_n (zr_n (zr_s (zk_ret0 C hbc hbs rfl dX0_passAll_18)
    zr_0)))
  zrs_0))
set_option maxRecDepth 100000 in
set_option maxHeartbeats 4000000 in
theorem okX0_readRiders {l : Launch} {D : va_G} {tys : List (ClassId × FieldType)} {o : zO} {z : Nat} (E : zEnv tys) : zCodeOk l D vwCl tys o z (zXX o z) zTs zprog mX0_readRiders := by
  intro p e R s m args below meth c0 Q ws0 hbc hbs C pc sem h
  replace hbc : R.cells = 0 := hbc
  replace hbs : R.slots = 0 := hbs
  replace C : zCx p R s m args meth c0 D vwCl tys z (zXX o z) zTs RX0 cX0_readRiders 7 "readRiders" := C
  refine zRows_get (P := fun pc sem => zOp p l e R s m args below meth c0 Q D vwCl tys o z (zXX o z) zTs zprog ws0 7 cX0_readRiders (some .int) pc sem) (c := kX0_readRiders) ?_ h
  unfold kX0_readRiders
  exact (zrs_c (zr_s (zq_aload_n C dX0_readRiders_0 rfl)
    (zr_s (zq_getN (k := 1) C dX0_readRiders_1 (show vwCl[6]? = some (RX6, TX6, 2) from rfl) zinX6 (by decide) (fun U H h => zn2 h))
    (zr_n (zr_n (zr_s (zq_if_ne C dX0_readRiders_4 (by decide))
    (zr_n (zr_n (zr_s (zq_iconst (n := .ofNat 0) C dX0_readRiders_7 (by decide))
    (zr_s (zk_ret1 (ty := .int) C hbc hbs rfl rfl (Or.inl ⟨dX0_readRiders_8, by decide⟩))
    (zr_n (zr_n (zr_n (zr_n (zr_n (zr_n (zr_n zr_0))))))))))))))))
  (zrs_c (zr_n (zr_n (zr_n (zr_n (zr_n (zr_n (zr_n (zr_n (zr_n (zr_n (zr_n (zr_n (zr_n (zr_n (zr_n (zr_n zr_0))))))))))))))))
  (zrs_c (zr_n (zr_n (zr_n (zr_n (zr_n (zr_n (zr_n (zr_n (zr_n (zr_n (zr_n (zr_n (zr_n (zr_n (zr_n (zr_n zr_0))))))))))))))))
  (zrs_c (zr_n (zr_n (zr_n (zr_n (zr_n (zr_n (zr_n (zr_n (zr_n (zr_n (zr_n (zr_n (zr_n (zr_n (zr_n (zr_n zr_0))))))))))))))))
  (zrs_c (zr_n (zr_n (zr_n (zr_n (zr_n (zr_n (zr_n (zr_n (zr_n (zr_n (zr_n (zr_n (zr_n (zr_n (zr_n (zr_n zr_0))))))))))))))))
  (zrs_c (zr_n (zr_n (zr_n (zr_n (zr_n (zr_n (zr_n (zr_n (zr_n (zr_n (zr_n (zr_n (zr_n (zr_n (zr_n (zr_n zr_0))))))))))))))))
  (zrs_c (zr_n (zr_n (zr_n (zr_n (zr_n (zr_n (zr_n (zr_n (zr_n (zr_n (zr_n (zr_n (zr_n (zr_n (zr_n (zr_n zr_0))))))))))))))))
  (zrs_c (zr_n (zr_n (zr_n (zr_n (zr_n (zr_n (zr_n (zr_n zr_0))))))))
  zrs_0))))))))
set_option maxRecDepth 100000 in
set_option maxHeartbeats 4000000 in
theorem okX0_watch {l : Launch} {D : va_G} {tys : List (ClassId × FieldType)} {o : zO} {z : Nat} (E : zEnv tys) : zCodeOk l D vwCl tys o z (zXX o z) zTs zprog mX0_watch := by
  intro p e R s m args below meth c0 Q ws0 hbc hbs C pc sem h
  replace hbc : R.cells = 0 := hbc
  replace hbs : R.slots = 0 := hbs
  replace C : zCx p R s m args meth c0 D vwCl tys z (zXX o z) zTs RX0 cX0_watch 5 "watch" := C
  refine zRows_get (P := fun pc sem => zOp p l e R s m args below meth c0 Q D vwCl tys o z (zXX o z) zTs zprog ws0 5 cX0_watch none pc sem) (c := kX0_watch) ?_ h
  unfold kX0_watch
  exact (zrs_c (zr_s (zq_aload_n C dX0_watch_0 rfl)
    (zr_s (zq_iconst (n := .ofNat 0) C dX0_watch_1 (by decide))
    (zr_s (zq_put (k := 10) C dX0_watch_2 (show vwCl[0]? = some (RX0, TX0, 12) from rfl) zinX0 tyX0 tyX0_ok nmX0 (by decide) zw263 rfl (ty := .int) (by decide +kernel) rfl)
    (zr_n (zr_n (zr_s (zq_aload_n C dX0_watch_5 rfl)
    (zr_s (zq_iconst (n := .ofNat 0) C dX0_watch_6 (by decide))
    (zr_s (zq_put (k := 11) C dX0_watch_7 (show vwCl[0]? = some (RX0, TX0, 12) from rfl) zinX0 tyX0 tyX0_ok nmX0 (by decide) zw265 rfl (ty := .int) (by decide +kernel) rfl)
    (zr_n (zr_n (zr_s (zq_aload_n C dX0_watch_10 rfl)
    (zr_s (zq_get (k := 4) C dX0_watch_11 (show vwCl[0]? = some (RX0, TX0, 12) from rfl) zinX0 (by decide) zw253)
    (zr_n (zr_n (zr_s (zq_iconst (n := .ofNat 0) C dX0_watch_14 (by decide))
    (zr_s (zk_callS C zXX_ok zTs_good hbc hbs (show zget zprog 16 = some mJ7_fill_53178 from rfl) rfl rfl zw300 zw662 zw299 zw12 (by decide +kernel) dX0_watch_15)
    zr_0))))))))))))))))
  (zrs_c (zr_n (zr_n (zr_s (zq_iconst (n := .negSucc 0) C dX0_watch_18 (by decide))
    (zr_s (zq_istore_n C dX0_watch_19 rfl (by decide))
    (zr_s (zq_iconst (n := .ofNat 0) C dX0_watch_20 (by decide))
    (zr_s (zq_istore_n C dX0_watch_21 rfl (by decide))
    (zr_s (zq_iload_n C dX0_watch_22 rfl)
    (zr_s (zq_aload_n C dX0_watch_23 rfl)
    (zr_s (zq_get (k := 7) C dX0_watch_24 (show vwCl[0]? = some (RX0, TX0, 12) from rfl) zinX0 (by decide) zw257)
    (zr_n (zr_n (zr_s (zq_icmp_ge C dX0_watch_27 (by decide))
    (zr_n (zr_n (zr_s (zq_aload_n C dX0_watch_30 rfl)
    (zr_s (zq_getN (k := 0) C dX0_watch_31 (show vwCl[5]? = some (RX5, TX5, 6) from rfl) zinX5 (by decide) (fun U H h => zn18 h))
    zr_0))))))))))))))))
  (zrs_c (zr_n (zr_n (zr_s (zq_iload_n C dX0_watch_34 rfl)
    (zr_s (zk_iald C dX0_watch_35)
    (zr_s (zq_istore C dX0_watch_36 (by decide))
    (zr_n (zr_s (zq_aload_n C dX0_watch_38 rfl)
    (zr_s (zq_aload_n C dX0_watch_39 rfl)
    (zr_s (zq_iload C dX0_watch_40)
    (zr_n (zr_s (zq_iload_n C dX0_watch_42 rfl)
    (zr_s (zk_callV (n := 3) C zXX_ok zTs_good hbc hbs (show zget zprog 21 = some mX0_isAble from rfl) rfl rfl (show vwCl[0]? = some (RX0, TX0, 12) from rfl) zw666 zw663 zw665 zs38 zw3 (by decide +kernel) dX0_watch_43)
    (zr_n (zr_n (zr_s (zq_if_eq C dX0_watch_46 (by decide))
    (zr_n zr_0))))))))))))))))
  (zrs_c (zr_n (zr_n (zr_n (zr_n (zr_n (zr_n (zr_n (zr_n (zr_n (zr_n (zr_n (zr_n (zr_n (zr_n (zr_n (zr_n zr_0))))))))))))))))
  (zrs_c (zr_n (zr_n (zr_s (zq_aload_n C dX0_watch_66 rfl)
    (zr_s (zk_dup C dX0_watch_67)
    (zr_s (zq_get (k := 10) C dX0_watch_68 (show vwCl[0]? = some (RX0, TX0, 12) from rfl) zinX0 (by decide) zw263)
    (zr_n (zr_n (zr_s (zq_iconst (n := .ofNat 1) C dX0_watch_71 (by decide))
    (zr_s (zq_iload_n C dX0_watch_72 rfl)
    (zr_s (zq_ishl C dX0_watch_73)
    (zr_s (zq_ior C dX0_watch_74)
    (zr_s (zq_put (k := 10) C dX0_watch_75 (show vwCl[0]? = some (RX0, TX0, 12) from rfl) zinX0 tyX0 tyX0_ok nmX0 (by decide) zw263 rfl (ty := .int) (by decide +kernel) rfl)
    (zr_n (zr_n (zr_s (zq_iconst (n := .negSucc 0) C dX0_watch_78 (by decide))
    (zr_s (zq_istore_n C dX0_watch_79 rfl (by decide))
    zr_0))))))))))))))))
  (zrs_c (zr_s (zk_goto C dX0_watch_80 (by decide))
    (zr_n (zr_n (zr_n (zr_n (zr_n (zr_n (zr_n (zr_n (zr_n (zr_n (zr_n (zr_n (zr_n (zr_n (zr_n zr_0))))))))))))))))
  (zrs_c (zr_n (zr_n (zr_n (zr_n (zr_n (zr_n (zr_n (zr_n (zr_n (zr_n (zr_n (zr_n (zr_n (zr_n (zr_n (zr_n zr_0))))))))))))))))
  (zrs_c (zr_n (zr_n (zr_n (zr_n (zr_n (zr_n (zr_n (zr_n (zr_n (zr_n (zr_n (zr_n (zr_n (zr_n (zr_n (zr_n zr_0))))))))))))))))
  (zrs_c (zr_n (zr_n (zr_n (zr_n (zr_n (zr_n (zr_n (zr_n (zr_n (zr_n (zr_n (zr_n (zr_n (zr_n (zr_n (zr_n zr_0))))))))))))))))
  (zrs_c (zr_n (zr_s (zk_inc (n := .ofNat 1) C dX0_watch_145 (by decide) (by decide))
    (zr_n (zr_n (zr_s (zk_goto C dX0_watch_148 (by decide))
    (zr_n (zr_n (zr_s (zk_ret0 C hbc hbs rfl dX0_watch_151)
    zr_0))))))))
  zrs_0))))))))))
set_option maxRecDepth 100000 in
set_option maxHeartbeats 4000000 in
theorem okX1_add {l : Launch} {D : va_G} {tys : List (ClassId × FieldType)} {o : zO} {z : Nat} (E : zEnv tys) : zCodeOk l D vwCl tys o z (zXX o z) zTs zprog mX1_add := by
  intro p e R s m args below meth c0 Q ws0 hbc hbs C pc sem h
  replace hbc : R.cells = 0 := hbc
  replace hbs : R.slots = 0 := hbs
  replace C : zCx p R s m args meth c0 D vwCl tys z (zXX o z) zTs RX1 cX1_add 3 "add" := C
  refine zRows_get (P := fun pc sem => zOp p l e R s m args below meth c0 Q D vwCl tys o z (zXX o z) zTs zprog ws0 3 cX1_add none pc sem) (c := kX1_add) ?_ h
  unfold kX1_add
  exact (zrs_c (zr_s (zq_aload_n C dX1_add_0 rfl)
    (zr_s (zq_get (k := 1) C dX1_add_1 (show vwCl[1]? = some (RX1, TX1, 2) from rfl) zinX1 (by decide) zw414)
    (zr_n (zr_n (zr_s (zq_aload_n C dX1_add_4 rfl)
    (zr_s (zq_get (k := 0) C dX1_add_5 (show vwCl[1]? = some (RX1, TX1, 2) from rfl) zinX1 (by decide) zw413)
    (zr_n (zr_n (zr_s (zk_len C dX1_add_8)
    (zr_s (zq_icmp_ge C dX1_add_9 (by decide))
    (zr_n (zr_n (zr_s (zq_aload_n C dX1_add_12 rfl)
    (zr_s (zq_get (k := 0) C dX1_add_13 (show vwCl[1]? = some (RX1, TX1, 2) from rfl) zinX1 (by decide) zw413)
    (zr_n (zr_n zr_0))))))))))))))))
  (zrs_c (zr_s (zq_aload_n C dX1_add_16 rfl)
    (zr_s (zq_get (k := 1) C dX1_add_17 (show vwCl[1]? = some (RX1, TX1, 2) from rfl) zinX1 (by decide) zw414)
    (zr_n (zr_n (zr_s (zq_lload_n C dX1_add_20 rfl)
    (zr_s (zk_last C dX1_add_21)
    (zr_s (zq_aload_n C dX1_add_22 rfl)
    (zr_s (zk_dup C dX1_add_23)
    (zr_s (zq_get (k := 1) C dX1_add_24 (show vwCl[1]? = some (RX1, TX1, 2) from rfl) zinX1 (by decide) zw414)
    (zr_n (zr_n (zr_s (zq_iconst (n := .ofNat 1) C dX1_add_27 (by decide))
    (zr_s (zk_add C dX1_add_28)
    (zr_s (zq_put (k := 1) C dX1_add_29 (show vwCl[1]? = some (RX1, TX1, 2) from rfl) zinX1 tyX1 tyX1_ok nmX1 (by decide) zw414 rfl (ty := .int) (by decide +kernel) rfl)
    (zr_n (zr_n zr_0))))))))))))))))
  (zrs_c (zr_s (zk_ret0 C hbc hbs rfl dX1_add_32)
    zr_0)
  zrs_0)))
set_option maxRecDepth 100000 in
set_option maxHeartbeats 4000000 in
theorem okX1_clear {l : Launch} {D : va_G} {tys : List (ClassId × FieldType)} {o : zO} {z : Nat} (E : zEnv tys) : zCodeOk l D vwCl tys o z (zXX o z) zTs zprog mX1_clear := by
  intro p e R s m args below meth c0 Q ws0 hbc hbs C pc sem h
  replace hbc : R.cells = 0 := hbc
  replace hbs : R.slots = 0 := hbs
  replace C : zCx p R s m args meth c0 D vwCl tys z (zXX o z) zTs RX1 cX1_clear 1 "clear" := C
  refine zRows_get (P := fun pc sem => zOp p l e R s m args below meth c0 Q D vwCl tys o z (zXX o z) zTs zprog ws0 1 cX1_clear none pc sem) (c := kX1_clear) ?_ h
  unfold kX1_clear
  exact (zrs_c (zr_s (zq_aload_n C dX1_clear_0 rfl)
    (zr_s (zq_iconst (n := .ofNat 0) C dX1_clear_1 (by decide))
    (zr_s (zq_put (k := 1) C dX1_clear_2 (show vwCl[1]? = some (RX1, TX1, 2) from rfl) zinX1 tyX1 tyX1_ok nmX1 (by decide) zw414 rfl (ty := .int) (by decide +kernel) rfl)
    (zr_n (zr_n (zr_s (zk_ret0 C hbc hbs rfl dX1_clear_5)
    zr_0))))))
  zrs_0)
set_option maxRecDepth 100000 in
set_option maxHeartbeats 4000000 in
theorem okX1_init {l : Launch} {D : va_G} {tys : List (ClassId × FieldType)} {o : zO} {z : Nat} (E : zEnv tys) : zCodeOk l D vwCl tys o z (zXX o z) zTs zprog mX1_init := by
  intro p e R s m args below meth c0 Q ws0 hbc hbs C pc sem h
  replace hbc : R.cells = 1 := hbc
  replace hbs : R.slots = 8 := hbs
  replace C : zCx p R s m args meth c0 D vwCl tys z (zXX o z) zTs RX1 cX1_init 1 "<init>" := C
  refine zRows_get (P := fun pc sem => zOp p l e R s m args below meth c0 Q D vwCl tys o z (zXX o z) zTs zprog ws0 1 cX1_init none pc sem) (c := kX1_init) ?_ h
  unfold kX1_init
  exact (zrs_c (zr_s (zq_aload_n C dX1_init_0 rfl)
    (zr_s (zk_objInit C dX1_init_1 zw412 zw29 zw30)
    (zr_n (zr_n (zr_s (zq_aload_n C dX1_init_4 rfl)
    (zr_s (zq_bipush (n := .ofNat 8) C dX1_init_5 (by decide) (by decide))
    (zr_n (zr_s (zq_newJ C hbc hbs dX1_init_7 zw406 E.2.1)
    (zr_n (zr_s (zq_putF (k := 0) C dX1_init_9 (show vwCl[1]? = some (RX1, TX1, 2) from rfl) zinX1 tyX1 tyX1_ok nmX1 (by decide) zw413 rfl rfl rfl (ty := (.array .long)) (by decide +kernel) rfl)
    (zr_n (zr_n (zr_s (zk_ret0 C hbc hbs rfl dX1_init_12)
    zr_0)))))))))))))
  zrs_0)
set_option maxRecDepth 100000 in
set_option maxHeartbeats 4000000 in
theorem okX1_tell {l : Launch} {D : va_G} {tys : List (ClassId × FieldType)} {o : zO} {z : Nat} (E : zEnv tys) : zCodeOk l D vwCl tys o z (zXX o z) zTs zprog mX1_tell := by
  intro p e R s m args below meth c0 Q ws0 hbc hbs C pc sem h
  replace hbc : R.cells = 0 := hbc
  replace hbs : R.slots = 0 := hbs
  replace C : zCx p R s m args meth c0 D vwCl tys z (zXX o z) zTs RX1 cX1_tell 3 "tell" := C
  refine zRows_get (P := fun pc sem => zOp p l e R s m args below meth c0 Q D vwCl tys o z (zXX o z) zTs zprog ws0 3 cX1_tell none pc sem) (c := kX1_tell) ?_ h
  unfold kX1_tell
  exact (zrs_c (zr_s (zq_aload_n C dX1_tell_0 rfl)
    (zr_s (zk_callV (n := 0) C zXX_ok zTs_good hbc hbs (show zget zprog 28 = some mX1_clear from rfl) rfl rfl (show vwCl[1]? = some (RX1, TX1, 2) from rfl) zw690 zw687 zw689 zs43 zw15 (by decide +kernel) dX1_tell_1)
    (zr_n (zr_n (zr_s (zq_aload_n C dX1_tell_4 rfl)
    (zr_s (zq_lload_n C dX1_tell_5 rfl)
    (zr_s (zk_callV (n := 1) C zXX_ok zTs_good hbc hbs (show zget zprog 27 = some mX1_add from rfl) rfl rfl (show vwCl[1]? = some (RX1, TX1, 2) from rfl) zw694 zw691 zw693 zs44 zw15 (by decide +kernel) dX1_tell_6)
    (zr_n (zr_n (zr_s (zk_ret0 C hbc hbs rfl dX1_tell_9)
    zr_0))))))))))
  zrs_0)
set_option maxRecDepth 100000 in
set_option maxHeartbeats 4000000 in
theorem okX1_tell_ {l : Launch} {D : va_G} {tys : List (ClassId × FieldType)} {o : zO} {z : Nat} (E : zEnv tys) : zCodeOk l D vwCl tys o z (zXX o z) zTs zprog mX1_tell_ := by
  intro p e R s m args below meth c0 Q ws0 hbc hbs C pc sem h
  replace hbc : R.cells = 0 := hbc
  replace hbs : R.slots = 0 := hbs
  replace C : zCx p R s m args meth c0 D vwCl tys z (zXX o z) zTs RX1 cX1_tell_ 5 "tell" := C
  refine zRows_get (P := fun pc sem => zOp p l e R s m args below meth c0 Q D vwCl tys o z (zXX o z) zTs zprog ws0 5 cX1_tell_ none pc sem) (c := kX1_tell_) ?_ h
  unfold kX1_tell_
  exact (zrs_c (zr_s (zq_aload_n C dX1_tell__0 rfl)
    (zr_s (zk_callV (n := 0) C zXX_ok zTs_good hbc hbs (show zget zprog 28 = some mX1_clear from rfl) rfl rfl (show vwCl[1]? = some (RX1, TX1, 2) from rfl) zw690 zw687 zw689 zs43 zw15 (by decide +kernel) dX1_tell__1)
    (zr_n (zr_n (zr_s (zq_aload_n C dX1_tell__4 rfl)
    (zr_s (zq_lload_n C dX1_tell__5 rfl)
    (zr_s (zk_callV (n := 1) C zXX_ok zTs_good hbc hbs (show zget zprog 27 = some mX1_add from rfl) rfl rfl (show vwCl[1]? = some (RX1, TX1, 2) from rfl) zw694 zw691 zw693 zs44 zw15 (by decide +kernel) dX1_tell__6)
    (zr_n (zr_n (zr_s (zq_aload_n C dX1_tell__9 rfl)
    (zr_s (zq_lload_n C dX1_tell__10 rfl)
    (zr_s (zk_callV (n := 1) C zXX_ok zTs_good hbc hbs (show zget zprog 27 = some mX1_add from rfl) rfl rfl (show vwCl[1]? = some (RX1, TX1, 2) from rfl) zw694 zw691 zw693 zs44 zw15 (by decide +kernel) dX1_tell__11)
    (zr_n (zr_n (zr_s (zk_ret0 C hbc hbs rfl dX1_tell__14)
    zr_0)))))))))))))))
  zrs_0)
set_option maxRecDepth 100000 in
set_option maxHeartbeats 4000000 in
theorem okX2_init {l : Launch} {D : va_G} {tys : List (ClassId × FieldType)} {o : zO} {z : Nat} (E : zEnv tys) : zCodeOk l D vwCl tys o z (zXX o z) zTs zprog mX2_init := by
  intro p e R s m args below meth c0 Q ws0 hbc hbs C pc sem h
  replace hbc : R.cells = 37 := hbc
  replace hbs : R.slots = 276 := hbs
  replace C : zCx p R s m args meth c0 D vwCl tys z (zXX o z) zTs RX2 cX2_init 2 "<init>" := C
  refine zRows_get (P := fun pc sem => zOp p l e R s m args below meth c0 Q D vwCl tys o z (zXX o z) zTs zprog ws0 2 cX2_init none pc sem) (c := kX2_init) ?_ h
  unfold kX2_init
  exact (zrs_c (zr_s (zq_aload_n C dX2_init_0 rfl)
    (zr_s (zk_objInit C dX2_init_1 zw336 zw29 zw30)
    (zr_n (zr_n (zr_s (zq_aload_n C dX2_init_4 rfl)
    (zr_s (zq_bipush (n := .ofNat 12) C dX2_init_5 (by decide) (by decide))
    (zr_n (zr_s (zk_newq (ci := 5) (Cn := "RockingHorse$State") C hbc hbs dX2_init_7 zw337 (fun U H h => zxA h) rfl E.2.2.2.2)
    (zr_n (zr_n (zr_s (zq_putF (k := 0) C dX2_init_10 (show vwCl[2]? = some (RX2, TX2, 3) from rfl) zinX2 tyX2 tyX2_ok nmX2 (by decide) zw340 rfl rfl rfl (ty := (.array (.object "RockingHorse$State"))) (by decide +kernel) rfl)
    (zr_n (zr_n (zr_s (zq_iconst (n := .ofNat 0) C dX2_init_13 (by decide))
    (zr_s (zq_istore_n C dX2_init_14 rfl (by decide))
    (zr_s (zq_iload_n C dX2_init_15 rfl)
    zr_0))))))))))))))))
  (zrs_c (zr_s (zq_bipush (n := .ofNat 12) C dX2_init_16 (by decide) (by decide))
    (zr_n (zr_s (zq_icmp_ge C dX2_init_18 (by decide))
    (zr_n (zr_n (zr_s (zq_aload_n C dX2_init_21 rfl)
    (zr_s (zq_get (k := 0) C dX2_init_22 (show vwCl[2]? = some (RX2, TX2, 3) from rfl) zinX2 (by decide) zw340)
    (zr_n (zr_n (zr_s (zq_iload_n C dX2_init_25 rfl)
    (zr_s (zk_new C hbc hbs dX2_init_26 (show vwCl[5]? = some (RX5, TX5, 6) from rfl) zinX5 tyX5 tyX5_ok zw337 zw293 zw11 zdfX5 (fun ad => zfrX5 o ad))
    (zr_n (zr_n (zr_s (zk_dup C dX2_init_29)
    (zr_s (zk_callIN (n := 0) C zXX_ok zTs_good hbc hbs (show zget zprog 63 = some mX5_init from rfl) rfl rfl rfl zw296 (fun U H h => zn29 h) zw295 zw11 rfl (by decide +kernel) dX2_init_30)
    (zr_n zr_0))))))))))))))))
  (zrs_c (zr_n (zr_s (zk_aast C dX2_init_33 (fun _ _ => trivial))
    (zr_s (zk_inc (n := .ofNat 1) C dX2_init_34 (by decide) (by decide))
    (zr_n (zr_n (zr_s (zk_goto C dX2_init_37 (by decide))
    (zr_n (zr_n (zr_s (zk_ret0 C hbc hbs rfl dX2_init_40)
    zr_0)))))))))
  zrs_0)))
set_option maxRecDepth 100000 in
set_option maxHeartbeats 4000000 in
theorem okX2_pop {l : Launch} {D : va_G} {tys : List (ClassId × FieldType)} {o : zO} {z : Nat} (E : zEnv tys) : zCodeOk l D vwCl tys o z (zXX o z) zTs zprog mX2_pop := by
  intro p e R s m args below meth c0 Q ws0 hbc hbs C pc sem h
  replace hbc : R.cells = 0 := hbc
  replace hbs : R.slots = 0 := hbs
  replace C : zCx p R s m args meth c0 D vwCl tys z (zXX o z) zTs RX2 cX2_pop 2 "pop" := C
  refine zRows_get (P := fun pc sem => zOp p l e R s m args below meth c0 Q D vwCl tys o z (zXX o z) zTs zprog ws0 2 cX2_pop (some .int) pc sem) (c := kX2_pop) ?_ h
  unfold kX2_pop
  exact (zrs_c (zr_s (zq_aload_n C dX2_pop_0 rfl)
    (zr_s (zq_get (k := 2) C dX2_pop_1 (show vwCl[2]? = some (RX2, TX2, 3) from rfl) zinX2 (by decide) zw342)
    (zr_n (zr_n (zr_s (zq_if_ne C dX2_pop_4 (by decide))
    (zr_n (zr_n (zr_s (zq_iconst (n := .negSucc 0) C dX2_pop_7 (by decide))
    (zr_s (zk_ret1 (ty := .int) C hbc hbs rfl rfl (Or.inl ⟨dX2_pop_8, by decide⟩))
    (zr_n (zr_n (zr_n (zr_n (zr_n (zr_n (zr_n zr_0))))))))))))))))
  (zrs_c (zr_n (zr_n (zr_n (zr_n (zr_n (zr_n (zr_n (zr_n (zr_n (zr_n (zr_n (zr_n (zr_n (zr_n (zr_n (zr_n zr_0))))))))))))))))
  (zrs_c (zr_n (zr_n (zr_n (zr_n (zr_n (zr_n (zr_n (zr_n (zr_n (zr_n (zr_n (zr_n (zr_n (zr_n (zr_n (zr_n zr_0))))))))))))))))
  (zrs_c (zr_n (zr_n (zr_n (zr_n (zr_n zr_0)))))
  zrs_0))))
set_option maxRecDepth 100000 in
set_option maxHeartbeats 4000000 in
theorem okX2_push {l : Launch} {D : va_G} {tys : List (ClassId × FieldType)} {o : zO} {z : Nat} (E : zEnv tys) : zCodeOk l D vwCl tys o z (zXX o z) zTs zprog mX2_push := by
  intro p e R s m args below meth c0 Q ws0 hbc hbs C pc sem h
  replace hbc : R.cells = 0 := hbc
  replace hbs : R.slots = 0 := hbs
  replace C : zCx p R s m args meth c0 D vwCl tys z (zXX o z) zTs RX2 cX2_push 2 "push" := C
  refine zRows_get (P := fun pc sem => zOp p l e R s m args below meth c0 Q D vwCl tys o z (zXX o z) zTs zprog ws0 2 cX2_push none pc sem) (c := kX2_push) ?_ h
  unfold kX2_push
  exact (zrs_c (zr_s (zq_aload_n C dX2_push_0 rfl)
    (zr_s (zq_get (k := 0) C dX2_push_1 (show vwCl[2]? = some (RX2, TX2, 3) from rfl) zinX2 (by decide) zw340)
    (zr_n (zr_n (zr_s (zq_aload_n C dX2_push_4 rfl)
    (zr_s (zq_get (k := 1) C dX2_push_5 (show vwCl[2]? = some (RX2, TX2, 3) from rfl) zinX2 (by decide) zw341)
    (zr_n (zr_n (zr_s (zk_aald C dX2_push_8)
    (zr_s (zq_aload_n C dX2_push_9 rfl)
    (zr_s (zk_callVN (n := 1) C zXX_ok zTs_good hbc hbs (show zget zprog 62 = some mX5_copy from rfl) rfl rfl (show vwCl[5]? = some (RX5, TX5, 6) from rfl) zw614 (fun U H h => zn54 h) zw613 zs30 zw11 (by decide +kernel) dX2_push_10)
    (zr_n (zr_n (zr_s (zq_aload_n C dX2_push_13 rfl)
    (zr_s (zq_aload_n C dX2_push_14 rfl)
    (zr_s (zq_get (k := 1) C dX2_push_15 (show vwCl[2]? = some (RX2, TX2, 3) from rfl) zinX2 (by decide) zw341)
    zr_0))))))))))))))))
  (zrs_c (zr_n (zr_n (zr_s (zq_iconst (n := .ofNat 1) C dX2_push_18 (by decide))
    (zr_s (zk_add C dX2_push_19)
    (zr_s (zq_bipush (n := .ofNat 12) C dX2_push_20 (by decide) (by decide))
    (zr_n (zr_s (zq_irem C dX2_push_22)
    (zr_s (zq_put (k := 1) C dX2_push_23 (show vwCl[2]? = some (RX2, TX2, 3) from rfl) zinX2 tyX2 tyX2_ok nmX2 (by decide) zw341 rfl (ty := .int) (by decide +kernel) rfl)
    (zr_n (zr_n (zr_s (zq_aload_n C dX2_push_26 rfl)
    (zr_s (zq_aload_n C dX2_push_27 rfl)
    (zr_s (zq_get (k := 2) C dX2_push_28 (show vwCl[2]? = some (RX2, TX2, 3) from rfl) zinX2 (by decide) zw342)
    (zr_n (zr_n (zr_s (zq_iconst (n := .ofNat 1) C dX2_push_31 (by decide))
    zr_0))))))))))))))))
  (zrs_c (zr_s (zk_add C dX2_push_32)
    (zr_s (zq_bipush (n := .ofNat 12) C dX2_push_33 (by decide) (by decide))
    (zr_n (zr_s (zq_min C hbc hbs dX2_push_35 zw627 zw149 zw9 zw150)
    (zr_n (zr_n (zr_s (zq_put (k := 2) C dX2_push_38 (show vwCl[2]? = some (RX2, TX2, 3) from rfl) zinX2 tyX2 tyX2_ok nmX2 (by decide) zw342 rfl (ty := .int) (by decide +kernel) rfl)
    (zr_n (zr_n (zr_s (zk_ret0 C hbc hbs rfl dX2_push_41)
    zr_0))))))))))
  zrs_0)))
set_option maxRecDepth 100000 in
set_option maxHeartbeats 4000000 in
theorem okX3_await {l : Launch} {D : va_G} {tys : List (ClassId × FieldType)} {o : zO} {z : Nat} (E : zEnv tys) : zCodeOk l D vwCl tys o z (zXX o z) zTs zprog mX3_await := by
  intro p e R s m args below meth c0 Q ws0 hbc hbs C pc sem h
  replace hbc : R.cells = 0 := hbc
  replace hbs : R.slots = 0 := hbs
  replace C : zCx p R s m args meth c0 D vwCl tys z (zXX o z) zTs RX3 cX3_await 2 "await" := C
  refine zRows_get (P := fun pc sem => zOp p l e R s m args below meth c0 Q D vwCl tys o z (zXX o z) zTs zprog ws0 2 cX3_await none pc sem) (c := kX3_await) ?_ h
  unfold kX3_await
  exact (zrs_c (zr_s (zq_aload_n C dX3_await_0 rfl)
    (zr_s (zq_get (k := 5) C dX3_await_1 (show vwCl[3]? = some (RX3, TX3, 9) from rfl) zinX3 (by decide) zw221)
    (zr_n (zr_n (zr_s (zq_aload_n C dX3_await_4 rfl)
    (zr_s (zq_get (k := 1) C dX3_await_5 (show vwCl[3]? = some (RX3, TX3, 9) from rfl) zinX3 (by decide) zw217)
    (zr_n (zr_n (zr_s (zk_len C dX3_await_8)
    (zr_s (zq_icmp_ge C dX3_await_9 (by decide))
    (zr_n (zr_n (zr_s (zq_aload_n C dX3_await_12 rfl)
    (zr_s (zq_get (k := 1) C dX3_await_13 (show vwCl[3]? = some (RX3, TX3, 9) from rfl) zinX3 (by decide) zw217)
    (zr_n (zr_n zr_0))))))))))))))))
  (zrs_c (zr_s (zq_aload_n C dX3_await_16 rfl)
    (zr_s (zq_get (k := 5) C dX3_await_17 (show vwCl[3]? = some (RX3, TX3, 9) from rfl) zinX3 (by decide) zw221)
    (zr_n (zr_n (zr_s (zq_iload_n C dX3_await_20 rfl)
    (zr_s (zk_iast C dX3_await_21)
    (zr_s (zq_aload_n C dX3_await_22 rfl)
    (zr_s (zk_dup C dX3_await_23)
    (zr_s (zq_get (k := 5) C dX3_await_24 (show vwCl[3]? = some (RX3, TX3, 9) from rfl) zinX3 (by decide) zw221)
    (zr_n (zr_n (zr_s (zq_iconst (n := .ofNat 1) C dX3_await_27 (by decide))
    (zr_s (zk_add C dX3_await_28)
    (zr_s (zq_put (k := 5) C dX3_await_29 (show vwCl[3]? = some (RX3, TX3, 9) from rfl) zinX3 tyX3 tyX3_ok nmX3 (by decide) zw221 rfl (ty := .int) (by decide +kernel) rfl)
    (zr_n (zr_n zr_0))))))))))))))))
  (zrs_c (zr_s (zk_ret0 C hbc hbs rfl dX3_await_32)
    zr_0)
  zrs_0)))
set_option maxRecDepth 100000 in
set_option maxHeartbeats 4000000 in
theorem okX3_begin {l : Launch} {D : va_G} {tys : List (ClassId × FieldType)} {o : zO} {z : Nat} (E : zEnv tys) : zCodeOk l D vwCl tys o z (zXX o z) zTs zprog mX3_begin := by
  intro p e R s m args below meth c0 Q ws0 hbc hbs C pc sem h
  replace hbc : R.cells = 0 := hbc
  replace hbs : R.slots = 0 := hbs
  replace C : zCx p R s m args meth c0 D vwCl tys z (zXX o z) zTs RX3 cX3_begin 1 "begin" := C
  refine zRows_get (P := fun pc sem => zOp p l e R s m args below meth c0 Q D vwCl tys o z (zXX o z) zTs zprog ws0 1 cX3_begin none pc sem) (c := kX3_begin) ?_ h
  unfold kX3_begin
  exact (zrs_c (zr_s (zq_aload_n C dX3_begin_0 rfl)
    (zr_s (zq_iconst (n := .ofNat 0) C dX3_begin_1 (by decide))
    (zr_s (zq_put (k := 4) C dX3_begin_2 (show vwCl[3]? = some (RX3, TX3, 9) from rfl) zinX3 tyX3 tyX3_ok nmX3 (by decide) zw220 rfl (ty := .int) (by decide +kernel) rfl)
    (zr_n (zr_n (zr_s (zq_aload_n C dX3_begin_5 rfl)
    (zr_s (zq_iconst (n := .ofNat 0) C dX3_begin_6 (by decide))
    (zr_s (zq_put (k := 5) C dX3_begin_7 (show vwCl[3]? = some (RX3, TX3, 9) from rfl) zinX3 tyX3 tyX3_ok nmX3 (by decide) zw221 rfl (ty := .int) (by decide +kernel) rfl)
    (zr_n (zr_n (zr_s (zq_aload_n C dX3_begin_10 rfl)
    (zr_s (zq_iconst (n := .ofNat 0) C dX3_begin_11 (by decide))
    (zr_s (zq_put (k := 6) C dX3_begin_12 (show vwCl[3]? = some (RX3, TX3, 9) from rfl) zinX3 tyX3 tyX3_ok nmX3 (by decide) zw222 rfl (ty := .int) (by decide +kernel) rfl)
    (zr_n (zr_n (zr_s (zq_aload_n C dX3_begin_15 rfl)
    zr_0))))))))))))))))
  (zrs_c (zr_s (zq_iconst (n := .ofNat 0) C dX3_begin_16 (by decide))
    (zr_s (zq_put (k := 7) C dX3_begin_17 (show vwCl[3]? = some (RX3, TX3, 9) from rfl) zinX3 tyX3 tyX3_ok nmX3 (by decide) zw223 rfl (ty := .int) (by decide +kernel) rfl)
    (zr_n (zr_n (zr_s (zq_aload_n C dX3_begin_20 rfl)
    (zr_s (zq_iconst (n := .ofNat 1) C dX3_begin_21 (by decide))
    (zr_s (zq_put (k := 8) C dX3_begin_22 (show vwCl[3]? = some (RX3, TX3, 9) from rfl) zinX3 tyX3 tyX3_ok nmX3 (by decide) zw224 rfl (ty := .boolean) (by decide +kernel) rfl)
    (zr_n (zr_n (zr_s (zq_aload_n C dX3_begin_25 rfl)
    (zr_s (zq_get (k := 3) C dX3_begin_26 (show vwCl[3]? = some (RX3, TX3, 9) from rfl) zinX3 (by decide) zw219)
    (zr_n (zr_n (zr_s (zq_iconst (n := .ofNat 0) C dX3_begin_29 (by decide))
    (zr_s (zq_iconst (n := .ofNat 0) C dX3_begin_30 (by decide))
    (zr_s (zk_bast C dX3_begin_31)
    zr_0))))))))))))))))
  (zrs_c (zr_s (zk_ret0 C hbc hbs rfl dX3_begin_32)
    zr_0)
  zrs_0)))
set_option maxRecDepth 100000 in
set_option maxHeartbeats 4000000 in
theorem okX3_binding {l : Launch} {D : va_G} {tys : List (ClassId × FieldType)} {o : zO} {z : Nat} (E : zEnv tys) : zCodeOk l D vwCl tys o z (zXX o z) zTs zprog mX3_binding := by
  intro p e R s m args below meth c0 Q ws0 hbc hbs C pc sem h
  replace hbc : R.cells = 0 := hbc
  replace hbs : R.slots = 0 := hbs
  replace C : zCx p R s m args meth c0 D vwCl tys z (zXX o z) zTs RX3 cX3_binding 1 "binding" := C
  refine zRows_get (P := fun pc sem => zOp p l e R s m args below meth c0 Q D vwCl tys o z (zXX o z) zTs zprog ws0 1 cX3_binding (some .int) pc sem) (c := kX3_binding) ?_ h
  unfold kX3_binding
  exact (zrs_c (zr_s (zq_iload_n C dX3_binding_0 rfl)
    (zr_s (zk_lsw C dX3_binding_1 (by decide) (by decide) (fun v => zswL (pc := 1) (ps := [(.ofNat 42, .ofNat 79), (.ofNat 43, .ofNat 77), (.ofNat 45, .ofNat 77), (.ofNat 47, .ofNat 79), (.ofNat 60, .ofNat 75), (.ofNat 61, .ofNat 75), (.ofNat 62, .ofNat 75), (.ofNat 256, .ofNat 81)]) (by decide) (by decide) v))
    (zr_n (zr_n (zr_n (zr_n (zr_n (zr_n (zr_n (zr_n (zr_n (zr_n (zr_n (zr_n (zr_n (zr_n zr_0))))))))))))))))
  (zrs_c (zr_n (zr_n (zr_n (zr_n (zr_n (zr_n (zr_n (zr_n (zr_n (zr_n (zr_n (zr_n (zr_n (zr_n (zr_n (zr_n zr_0))))))))))))))))
  (zrs_c (zr_n (zr_n (zr_n (zr_n (zr_n (zr_n (zr_n (zr_n (zr_n (zr_n (zr_n (zr_n (zr_n (zr_n (zr_n (zr_n zr_0))))))))))))))))
  (zrs_c (zr_n (zr_n (zr_n (zr_n (zr_n (zr_n (zr_n (zr_n (zr_n (zr_n (zr_n (zr_n (zr_n (zr_n (zr_n (zr_n zr_0))))))))))))))))
  (zrs_c (zr_n (zr_n (zr_n (zr_n (zr_n (zr_n (zr_n (zr_n (zr_n (zr_n (zr_n (zr_n (zr_s (zq_iconst (n := .ofNat 1) C dX3_binding_76 (by decide))
    (zr_s (zk_ret1 (ty := .int) C hbc hbs rfl rfl (Or.inl ⟨dX3_binding_77, by decide⟩))
    (zr_s (zq_iconst (n := .ofNat 2) C dX3_binding_78 (by decide))
    (zr_s (zk_ret1 (ty := .int) C hbc hbs rfl rfl (Or.inl ⟨dX3_binding_79, by decide⟩))
    zr_0))))))))))))))))
  (zrs_c (zr_s (zq_iconst (n := .ofNat 3) C dX3_binding_80 (by decide))
    (zr_s (zk_ret1 (ty := .int) C hbc hbs rfl rfl (Or.inl ⟨dX3_binding_81, by decide⟩))
    (zr_n (zr_n (zr_s (zq_iconst (n := .ofNat 0) C dX3_binding_84 (by decide))
    (zr_s (zk_ret1 (ty := .int) C hbc hbs rfl rfl (Or.inl ⟨dX3_binding_85, by decide⟩))
    zr_0))))))
  zrs_0))))))
set_option maxRecDepth 100000 in
set_option maxHeartbeats 4000000 in
theorem okX3_closeBracket {l : Launch} {D : va_G} {tys : List (ClassId × FieldType)} {o : zO} {z : Nat} (E : zEnv tys) : zCodeOk l D vwCl tys o z (zXX o z) zTs zprog mX3_closeBracket := by
  intro p e R s m args below meth c0 Q ws0 hbc hbs C pc sem h
  replace hbc : R.cells = 0 := hbc
  replace hbs : R.slots = 0 := hbs
  replace C : zCx p R s m args meth c0 D vwCl tys z (zXX o z) zTs RX3 cX3_closeBracket 1 "closeBracket" := C
  refine zRows_get (P := fun pc sem => zOp p l e R s m args below meth c0 Q D vwCl tys o z (zXX o z) zTs zprog ws0 1 cX3_closeBracket (some .boolean) pc sem) (c := kX3_closeBracket) ?_ h
  unfold kX3_closeBracket
  exact (zrs_c (zr_s (zq_aload_n C dX3_closeBracket_0 rfl)
    (zr_s (zq_get (k := 6) C dX3_closeBracket_1 (show vwCl[3]? = some (RX3, TX3, 9) from rfl) zinX3 (by decide) zw222)
    (zr_n (zr_n (zr_s (zq_if_ne C dX3_closeBracket_4 (by decide))
    (zr_n (zr_n (zr_n (zr_n (zr_s (zq_aload_n C dX3_closeBracket_9 rfl)
    (zr_s (zq_iconst (n := .ofNat 1) C dX3_closeBracket_10 (by decide))
    (zr_s (zk_callV (n := 1) C zXX_ok zTs_good hbc hbs (show zget zprog 44 = some mX3_reckonDownTo from rfl) rfl rfl (show vwCl[3]? = some (RX3, TX3, 9) from rfl) zw211 zw208 zw210 zs9 zw4 (by decide +kernel) dX3_closeBracket_11)
    (zr_n (zr_n (zr_s (zq_aload_n C dX3_closeBracket_14 rfl)
    (zr_s (zk_dup C dX3_closeBracket_15)
    zr_0))))))))))))))))
  (zrs_c (zr_s (zq_get (k := 6) C dX3_closeBracket_16 (show vwCl[3]? = some (RX3, TX3, 9) from rfl) zinX3 (by decide) zw222)
    (zr_n (zr_n (zr_s (zq_iconst (n := .ofNat 1) C dX3_closeBracket_19 (by decide))
    (zr_s (zk_sub C dX3_closeBracket_20)
    (zr_s (zq_put (k := 6) C dX3_closeBracket_21 (show vwCl[3]? = some (RX3, TX3, 9) from rfl) zinX3 tyX3 tyX3_ok nmX3 (by decide) zw222 rfl (ty := .int) (by decide +kernel) rfl)
    (zr_n (zr_n (zr_s (zq_aload_n C dX3_closeBracket_24 rfl)
    (zr_s (zq_iconst (n := .ofNat 0) C dX3_closeBracket_25 (by decide))
    (zr_s (zq_aload_n C dX3_closeBracket_26 rfl)
    (zr_s (zq_get (k := 5) C dX3_closeBracket_27 (show vwCl[3]? = some (RX3, TX3, 9) from rfl) zinX3 (by decide) zw221)
    (zr_n (zr_n (zr_s (zq_iconst (n := .ofNat 1) C dX3_closeBracket_30 (by decide))
    (zr_s (zk_sub C dX3_closeBracket_31)
    zr_0))))))))))))))))
  (zrs_c (zr_s (zq_max C hbc hbs dX3_closeBracket_32 zw215 zw146 zw9 zw147)
    (zr_n (zr_n (zr_s (zq_put (k := 5) C dX3_closeBracket_35 (show vwCl[3]? = some (RX3, TX3, 9) from rfl) zinX3 tyX3 tyX3_ok nmX3 (by decide) zw221 rfl (ty := .int) (by decide +kernel) rfl)
    (zr_n (zr_n (zr_s (zq_iconst (n := .ofNat 1) C dX3_closeBracket_38 (by decide))
    (zr_s (zk_ret1 (ty := .boolean) C hbc hbs rfl rfl (Or.inl ⟨dX3_closeBracket_39, by decide⟩))
    zr_0))))))))
  zrs_0)))
set_option maxRecDepth 100000 in
set_option maxHeartbeats 4000000 in
theorem okX3_emit {l : Launch} {D : va_G} {tys : List (ClassId × FieldType)} {o : zO} {z : Nat} (E : zEnv tys) : zCodeOk l D vwCl tys o z (zXX o z) zTs zprog mX3_emit := by
  intro p e R s m args below meth c0 Q ws0 hbc hbs C pc sem h
  replace hbc : R.cells = 0 := hbc
  replace hbs : R.slots = 0 := hbs
  replace C : zCx p R s m args meth c0 D vwCl tys z (zXX o z) zTs RX3 cX3_emit 2 "emit" := C
  refine zRows_get (P := fun pc sem => zOp p l e R s m args below meth c0 Q D vwCl tys o z (zXX o z) zTs zprog ws0 2 cX3_emit none pc sem) (c := kX3_emit) ?_ h
  unfold kX3_emit
  exact (zrs_c (zr_s (zq_aload_n C dX3_emit_0 rfl)
    (zr_s (zq_get (k := 4) C dX3_emit_1 (show vwCl[3]? = some (RX3, TX3, 9) from rfl) zinX3 (by decide) zw220)
    (zr_n (zr_n (zr_s (zq_aload_n C dX3_emit_4 rfl)
    (zr_s (zq_get (k := 0) C dX3_emit_5 (show vwCl[3]? = some (RX3, TX3, 9) from rfl) zinX3 (by decide) zw216)
    (zr_n (zr_n (zr_s (zk_len C dX3_emit_8)
    (zr_s (zq_icmp_ge C dX3_emit_9 (by decide))
    (zr_n (zr_n (zr_s (zq_aload_n C dX3_emit_12 rfl)
    (zr_s (zq_get (k := 0) C dX3_emit_13 (show vwCl[3]? = some (RX3, TX3, 9) from rfl) zinX3 (by decide) zw216)
    (zr_n (zr_n zr_0))))))))))))))))
  (zrs_c (zr_s (zq_aload_n C dX3_emit_16 rfl)
    (zr_s (zq_get (k := 4) C dX3_emit_17 (show vwCl[3]? = some (RX3, TX3, 9) from rfl) zinX3 (by decide) zw220)
    (zr_n (zr_n (zr_s (zq_iload_n C dX3_emit_20 rfl)
    (zr_s (zk_iast C dX3_emit_21)
    (zr_s (zq_aload_n C dX3_emit_22 rfl)
    (zr_s (zk_dup C dX3_emit_23)
    (zr_s (zq_get (k := 4) C dX3_emit_24 (show vwCl[3]? = some (RX3, TX3, 9) from rfl) zinX3 (by decide) zw220)
    (zr_n (zr_n (zr_s (zq_iconst (n := .ofNat 1) C dX3_emit_27 (by decide))
    (zr_s (zk_add C dX3_emit_28)
    (zr_s (zq_put (k := 4) C dX3_emit_29 (show vwCl[3]? = some (RX3, TX3, 9) from rfl) zinX3 tyX3 tyX3_ok nmX3 (by decide) zw220 rfl (ty := .int) (by decide +kernel) rfl)
    (zr_n (zr_n zr_0))))))))))))))))
  (zrs_c (zr_s (zk_ret0 C hbc hbs rfl dX3_emit_32)
    zr_0)
  zrs_0)))
set_option maxRecDepth 100000 in
set_option maxHeartbeats 4000000 in
theorem okX3_init {l : Launch} {D : va_G} {tys : List (ClassId × FieldType)} {o : zO} {z : Nat} (E : zEnv tys) : zCodeOk l D vwCl tys o z (zXX o z) zTs zprog mX3_init := by
  intro p e R s m args below meth c0 Q ws0 hbc hbs C pc sem h
  replace hbc : R.cells = 4 := hbc
  replace hbs : R.slots = 125 := hbs
  replace C : zCx p R s m args meth c0 D vwCl tys z (zXX o z) zTs RX3 cX3_init 1 "<init>" := C
  refine zRows_get (P := fun pc sem => zOp p l e R s m args below meth c0 Q D vwCl tys o z (zXX o z) zTs zprog ws0 1 cX3_init none pc sem) (c := kX3_init) ?_ h
  unfold kX3_init
  exact (zrs_c (zr_s (zq_aload_n C dX3_init_0 rfl)
    (zr_s (zk_objInit C dX3_init_1 zw59 zw29 zw30)
    (zr_n (zr_n (zr_s (zq_aload_n C dX3_init_4 rfl)
    (zr_s (zq_bipush (n := .ofNat 40) C dX3_init_5 (by decide) (by decide))
    (zr_n (zr_s (zq_newI C hbc hbs dX3_init_7 zw47 E.1)
    (zr_n (zr_s (zq_putF (k := 0) C dX3_init_9 (show vwCl[3]? = some (RX3, TX3, 9) from rfl) zinX3 tyX3 tyX3_ok nmX3 (by decide) zw216 rfl rfl rfl (ty := (.array .int)) (by decide +kernel) rfl)
    (zr_n (zr_n (zr_s (zq_aload_n C dX3_init_12 rfl)
    (zr_s (zq_bipush (n := .ofNat 40) C dX3_init_13 (by decide) (by decide))
    (zr_n (zr_s (zq_newI C hbc hbs dX3_init_15 zw47 E.1)
    zr_0))))))))))))))))
  (zrs_c (zr_n (zr_s (zq_putF (k := 1) C dX3_init_17 (show vwCl[3]? = some (RX3, TX3, 9) from rfl) zinX3 tyX3 tyX3_ok nmX3 (by decide) zw217 rfl rfl rfl (ty := (.array .int)) (by decide +kernel) rfl)
    (zr_n (zr_n (zr_s (zq_aload_n C dX3_init_20 rfl)
    (zr_s (zq_bipush (n := .ofNat 40) C dX3_init_21 (by decide) (by decide))
    (zr_n (zr_s (zq_newI C hbc hbs dX3_init_23 zw47 E.1)
    (zr_n (zr_s (zq_putF (k := 2) C dX3_init_25 (show vwCl[3]? = some (RX3, TX3, 9) from rfl) zinX3 tyX3 tyX3_ok nmX3 (by decide) zw218 rfl rfl rfl (ty := (.array .int)) (by decide +kernel) rfl)
    (zr_n (zr_n (zr_s (zq_aload_n C dX3_init_28 rfl)
    (zr_s (zq_iconst (n := .ofNat 5) C dX3_init_29 (by decide))
    (zr_s (zq_newZ C hbc hbs dX3_init_30 zw244 E.2.2.1)
    (zr_n zr_0))))))))))))))))
  (zrs_c (zr_s (zq_putF (k := 3) C dX3_init_32 (show vwCl[3]? = some (RX3, TX3, 9) from rfl) zinX3 tyX3 tyX3_ok nmX3 (by decide) zw219 rfl rfl rfl (ty := (.array .boolean)) (by decide +kernel) rfl)
    (zr_n (zr_n (zr_s (zq_aload_n C dX3_init_35 rfl)
    (zr_s (zk_callV (n := 0) C zXX_ok zTs_good hbc hbs (show zget zprog 43 = some mX3_readFirst from rfl) rfl rfl (show vwCl[3]? = some (RX3, TX3, 9) from rfl) zw63 zw60 zw62 zs0 zw4 (by decide +kernel) dX3_init_36)
    (zr_n (zr_n (zr_s (zk_ret0 C hbc hbs rfl dX3_init_39)
    zr_0))))))))
  zrs_0)))
set_option maxRecDepth 100000 in
set_option maxHeartbeats 4000000 in
theorem okX3_openBracket {l : Launch} {D : va_G} {tys : List (ClassId × FieldType)} {o : zO} {z : Nat} (E : zEnv tys) : zCodeOk l D vwCl tys o z (zXX o z) zTs zprog mX3_openBracket := by
  intro p e R s m args below meth c0 Q ws0 hbc hbs C pc sem h
  replace hbc : R.cells = 0 := hbc
  replace hbs : R.slots = 0 := hbs
  replace C : zCx p R s m args meth c0 D vwCl tys z (zXX o z) zTs RX3 cX3_openBracket 1 "openBracket" := C
  refine zRows_get (P := fun pc sem => zOp p l e R s m args below meth c0 Q D vwCl tys o z (zXX o z) zTs zprog ws0 1 cX3_openBracket (some .boolean) pc sem) (c := kX3_openBracket) ?_ h
  unfold kX3_openBracket
  exact (zrs_c (zr_s (zq_aload_n C dX3_openBracket_0 rfl)
    (zr_s (zq_get (k := 6) C dX3_openBracket_1 (show vwCl[3]? = some (RX3, TX3, 9) from rfl) zinX3 (by decide) zw222)
    (zr_n (zr_n (zr_s (zq_iconst (n := .ofNat 4) C dX3_openBracket_4 (by decide))
    (zr_s (zq_icmp_lt C dX3_openBracket_5 (by decide))
    (zr_n (zr_n (zr_n (zr_n (zr_s (zq_aload_n C dX3_openBracket_10 rfl)
    (zr_s (zk_dup C dX3_openBracket_11)
    (zr_s (zq_get (k := 6) C dX3_openBracket_12 (show vwCl[3]? = some (RX3, TX3, 9) from rfl) zinX3 (by decide) zw222)
    (zr_n (zr_n (zr_s (zq_iconst (n := .ofNat 1) C dX3_openBracket_15 (by decide))
    zr_0))))))))))))))))
  (zrs_c (zr_s (zk_add C dX3_openBracket_16)
    (zr_s (zq_put (k := 6) C dX3_openBracket_17 (show vwCl[3]? = some (RX3, TX3, 9) from rfl) zinX3 tyX3 tyX3_ok nmX3 (by decide) zw222 rfl (ty := .int) (by decide +kernel) rfl)
    (zr_n (zr_n (zr_s (zq_aload_n C dX3_openBracket_20 rfl)
    (zr_s (zq_get (k := 3) C dX3_openBracket_21 (show vwCl[3]? = some (RX3, TX3, 9) from rfl) zinX3 (by decide) zw219)
    (zr_n (zr_n (zr_s (zq_aload_n C dX3_openBracket_24 rfl)
    (zr_s (zq_get (k := 6) C dX3_openBracket_25 (show vwCl[3]? = some (RX3, TX3, 9) from rfl) zinX3 (by decide) zw222)
    (zr_n (zr_n (zr_s (zq_iconst (n := .ofNat 0) C dX3_openBracket_28 (by decide))
    (zr_s (zk_bast C dX3_openBracket_29)
    (zr_s (zq_aload_n C dX3_openBracket_30 rfl)
    (zr_s (zq_bipush (n := .ofNat 40) C dX3_openBracket_31 (by decide) (by decide))
    zr_0))))))))))))))))
  (zrs_c (zr_n (zr_s (zk_callV (n := 1) C zXX_ok zTs_good hbc hbs (show zget zprog 35 = some mX3_await from rfl) rfl rfl (show vwCl[3]? = some (RX3, TX3, 9) from rfl) zw124 zw121 zw123 zs3 zw4 (by decide +kernel) dX3_openBracket_33)
    (zr_n (zr_n (zr_s (zq_iconst (n := .ofNat 1) C dX3_openBracket_36 (by decide))
    (zr_s (zk_ret1 (ty := .boolean) C hbc hbs rfl rfl (Or.inl ⟨dX3_openBracket_37, by decide⟩))
    zr_0))))))
  zrs_0)))
set_option maxRecDepth 100000 in
set_option maxHeartbeats 4000000 in
theorem okX3_read {l : Launch} {D : va_G} {tys : List (ClassId × FieldType)} {o : zO} {z : Nat} (E : zEnv tys) : zCodeOk l D vwCl tys o z (zXX o z) zTs zprog mX3_read := by
  intro p e R s m args below meth c0 Q ws0 hbc hbs C pc sem h
  replace hbc : R.cells = 0 := hbc
  replace hbs : R.slots = 0 := hbs
  replace C : zCx p R s m args meth c0 D vwCl tys z (zXX o z) zTs RX3 cX3_read 6 "read" := C
  refine zRows_get (P := fun pc sem => zOp p l e R s m args below meth c0 Q D vwCl tys o z (zXX o z) zTs zprog ws0 6 cX3_read (some .int) pc sem) (c := kX3_read) ?_ h
  unfold kX3_read
  exact (zrs_c (zr_s (zq_aload_n C dX3_read_0 rfl)
    (zr_s (zq_getN (k := 1) C dX3_read_1 (show vwCl[6]? = some (RX6, TX6, 2) from rfl) zinX6 (by decide) (fun U H h => zn1 h))
    (zr_n (zr_n (zr_s (zq_if_ne C dX3_read_4 (by decide))
    (zr_n (zr_n (zr_s (zq_aload_n C dX3_read_7 rfl)
    (zr_s (zk_callV (n := 0) C zXX_ok zTs_good hbc hbs (show zget zprog 43 = some mX3_readFirst from rfl) rfl rfl (show vwCl[3]? = some (RX3, TX3, 9) from rfl) zw63 zw60 zw62 zs0 zw4 (by decide +kernel) dX3_read_8)
    (zr_n (zr_n (zr_s (zq_iconst (n := .negSucc 0) C dX3_read_11 (by decide))
    (zr_s (zk_ret1 (ty := .int) C hbc hbs rfl rfl (Or.inl ⟨dX3_read_12, by decide⟩))
    (zr_n (zr_n (zr_n zr_0))))))))))))))))
  (zrs_c (zr_n (zr_n (zr_n (zr_n (zr_n (zr_n (zr_n (zr_n (zr_n (zr_n (zr_n (zr_n (zr_n (zr_n (zr_n (zr_n zr_0))))))))))))))))
  (zrs_c (zr_n (zr_n (zr_n (zr_n (zr_n (zr_n (zr_n (zr_n (zr_n (zr_n (zr_n (zr_n (zr_n (zr_n (zr_n (zr_n zr_0))))))))))))))))
  (zrs_c (zr_n (zr_n (zr_n (zr_n (zr_n (zr_n (zr_n (zr_n (zr_n (zr_n (zr_n (zr_n (zr_n (zr_n (zr_n (zr_n zr_0))))))))))))))))
  (zrs_c (zr_n (zr_n (zr_n (zr_n (zr_n (zr_n (zr_n (zr_n (zr_n (zr_n (zr_n (zr_n (zr_n (zr_n (zr_n (zr_n zr_0))))))))))))))))
  (zrs_c (zr_n (zr_n (zr_n (zr_n (zr_n (zr_n (zr_n (zr_n (zr_n (zr_n (zr_n (zr_n (zr_n (zr_n (zr_n (zr_n zr_0))))))))))))))))
  (zrs_c (zr_n (zr_n (zr_n (zr_n (zr_n (zr_n (zr_n (zr_n (zr_n (zr_n (zr_n (zr_n (zr_n (zr_n zr_0))))))))))))))
  zrs_0)))))))
set_option maxRecDepth 100000 in
set_option maxHeartbeats 4000000 in
theorem okX3_readFirst {l : Launch} {D : va_G} {tys : List (ClassId × FieldType)} {o : zO} {z : Nat} (E : zEnv tys) : zCodeOk l D vwCl tys o z (zXX o z) zTs zprog mX3_readFirst := by
  intro p e R s m args below meth c0 Q ws0 hbc hbs C pc sem h
  replace hbc : R.cells = 0 := hbc
  replace hbs : R.slots = 0 := hbs
  replace C : zCx p R s m args meth c0 D vwCl tys z (zXX o z) zTs RX3 cX3_readFirst 2 "readFirst" := C
  refine zRows_get (P := fun pc sem => zOp p l e R s m args below meth c0 Q D vwCl tys o z (zXX o z) zTs zprog ws0 2 cX3_readFirst none pc sem) (c := kX3_readFirst) ?_ h
  unfold kX3_readFirst
  exact (zrs_c (zr_s (zq_aload_n C dX3_readFirst_0 rfl)
    (zr_s (zk_callV (n := 0) C zXX_ok zTs_good hbc hbs (show zget zprog 36 = some mX3_begin from rfl) rfl rfl (show vwCl[3]? = some (RX3, TX3, 9) from rfl) zw67 zw64 zw66 zs1 zw4 (by decide +kernel) dX3_readFirst_1)
    (zr_n (zr_n (zr_s (zq_iconst (n := .ofNat 0) C dX3_readFirst_4 (by decide))
    (zr_s (zq_istore_n C dX3_readFirst_5 rfl (by decide))
    (zr_s (zq_iload_n C dX3_readFirst_6 rfl)
    (zr_s (zq_ldcS (k := 0) C (by decide) dX3_readFirst_7 (fun U H h => zxR0 h))
    (zr_n (zr_s (zk_callT (n := 0) C zXX_ok zTs_good (fun U H h => zxT h) hbc hbs (show zget zprog 7 = some mJ0_length_8abf5 from rfl) rfl rfl rfl zw72 zw69 zw70 zw71 zw5 (by decide +kernel) dX3_readFirst_9)
    (zr_n (zr_n (zr_s (zq_icmp_ge C dX3_readFirst_12 (by decide))
    (zr_n (zr_n (zr_s (zq_aload_n C dX3_readFirst_15 rfl)
    zr_0))))))))))))))))
  (zrs_c (zr_s (zq_get (k := 8) C dX3_readFirst_16 (show vwCl[3]? = some (RX3, TX3, 9) from rfl) zinX3 (by decide) zw224)
    (zr_n (zr_n (zr_s (zq_if_eq C dX3_readFirst_19 (by decide))
    (zr_n (zr_n (zr_s (zq_aload_n C dX3_readFirst_22 rfl)
    (zr_s (zq_ldcS (k := 0) C (by decide) dX3_readFirst_23 (fun U H h => zxR0 h))
    (zr_n (zr_s (zq_iload_n C dX3_readFirst_25 rfl)
    (zr_s (zk_callT (n := 1) C zXX_ok zTs_good (fun U H h => zxT h) hbc hbs (show zget zprog 0 = some mJ0_charAt_5068e from rfl) rfl rfl rfl zw82 zw79 zw80 zw81 zw5 (by decide +kernel) dX3_readFirst_26)
    (zr_n (zr_n (zr_s (zk_callV (n := 1) C zXX_ok zTs_good hbc hbs (show zget zprog 46 = some mX3_takeThing from rfl) rfl rfl (show vwCl[3]? = some (RX3, TX3, 9) from rfl) zw120 zw117 zw119 zs2 zw4 (by decide +kernel) dX3_readFirst_29)
    (zr_n (zr_n zr_0))))))))))))))))
  (zrs_c (zr_s (zk_pop C dX3_readFirst_32)
    (zr_s (zk_goto C dX3_readFirst_33 (by decide))
    (zr_n (zr_n (zr_s (zq_aload_n C dX3_readFirst_36 rfl)
    (zr_s (zq_ldcS (k := 0) C (by decide) dX3_readFirst_37 (fun U H h => zxR0 h))
    (zr_n (zr_s (zq_iload_n C dX3_readFirst_39 rfl)
    (zr_s (zk_callT (n := 1) C zXX_ok zTs_good (fun U H h => zxT h) hbc hbs (show zget zprog 0 = some mJ0_charAt_5068e from rfl) rfl rfl rfl zw82 zw79 zw80 zw81 zw5 (by decide +kernel) dX3_readFirst_40)
    (zr_n (zr_n (zr_s (zk_callV (n := 1) C zXX_ok zTs_good hbc hbs (show zget zprog 45 = some mX3_takeBehindThing from rfl) rfl rfl (show vwCl[3]? = some (RX3, TX3, 9) from rfl) zw199 zw196 zw198 zs6 zw4 (by decide +kernel) dX3_readFirst_43)
    (zr_n (zr_n (zr_s (zk_pop C dX3_readFirst_46)
    (zr_s (zk_inc (n := .ofNat 1) C dX3_readFirst_47 (by decide) (by decide))
    zr_0))))))))))))))))
  (zrs_c (zr_n (zr_n (zr_s (zk_goto C dX3_readFirst_50 (by decide))
    (zr_n (zr_n (zr_s (zq_aload_n C dX3_readFirst_53 rfl)
    (zr_s (zq_iconst (n := .ofNat 1) C dX3_readFirst_54 (by decide))
    (zr_s (zk_callV (n := 1) C zXX_ok zTs_good hbc hbs (show zget zprog 44 = some mX3_reckonDownTo from rfl) rfl rfl (show vwCl[3]? = some (RX3, TX3, 9) from rfl) zw211 zw208 zw210 zs9 zw4 (by decide +kernel) dX3_readFirst_55)
    (zr_n (zr_n (zr_s (zk_ret0 C hbc hbs rfl dX3_readFirst_58)
    zr_0)))))))))))
  zrs_0))))
set_option maxRecDepth 100000 in
set_option maxHeartbeats 4000000 in
theorem okX3_reckonDownTo {l : Launch} {D : va_G} {tys : List (ClassId × FieldType)} {o : zO} {z : Nat} (E : zEnv tys) : zCodeOk l D vwCl tys o z (zXX o z) zTs zprog mX3_reckonDownTo := by
  intro p e R s m args below meth c0 Q ws0 hbc hbs C pc sem h
  replace hbc : R.cells = 0 := hbc
  replace hbs : R.slots = 0 := hbs
  replace C : zCx p R s m args meth c0 D vwCl tys z (zXX o z) zTs RX3 cX3_reckonDownTo 2 "reckonDownTo" := C
  refine zRows_get (P := fun pc sem => zOp p l e R s m args below meth c0 Q D vwCl tys o z (zXX o z) zTs zprog ws0 2 cX3_reckonDownTo none pc sem) (c := kX3_reckonDownTo) ?_ h
  unfold kX3_reckonDownTo
  exact (zrs_c (zr_s (zq_aload_n C dX3_reckonDownTo_0 rfl)
    (zr_s (zq_get (k := 5) C dX3_reckonDownTo_1 (show vwCl[3]? = some (RX3, TX3, 9) from rfl) zinX3 (by decide) zw221)
    (zr_n (zr_n (zr_s (zq_if_le C dX3_reckonDownTo_4 (by decide))
    (zr_n (zr_n (zr_s (zq_aload_n C dX3_reckonDownTo_7 rfl)
    (zr_s (zq_get (k := 1) C dX3_reckonDownTo_8 (show vwCl[3]? = some (RX3, TX3, 9) from rfl) zinX3 (by decide) zw217)
    (zr_n (zr_n (zr_s (zq_aload_n C dX3_reckonDownTo_11 rfl)
    (zr_s (zq_get (k := 5) C dX3_reckonDownTo_12 (show vwCl[3]? = some (RX3, TX3, 9) from rfl) zinX3 (by decide) zw221)
    (zr_n (zr_n (zr_s (zq_iconst (n := .ofNat 1) C dX3_reckonDownTo_15 (by decide))
    zr_0))))))))))))))))
  (zrs_c (zr_s (zk_sub C dX3_reckonDownTo_16)
    (zr_s (zk_iald C dX3_reckonDownTo_17)
    (zr_s (zk_callS C zXX_ok zTs_good hbc hbs (show zget zprog 37 = some mX3_binding from rfl) rfl rfl zw214 zw212 zw213 zw4 (by decide +kernel) dX3_reckonDownTo_18)
    (zr_n (zr_n (zr_s (zq_iload_n C dX3_reckonDownTo_21 rfl)
    (zr_s (zq_icmp_lt C dX3_reckonDownTo_22 (by decide))
    (zr_n (zr_n (zr_s (zq_aload_n C dX3_reckonDownTo_25 rfl)
    (zr_s (zk_dup C dX3_reckonDownTo_26)
    (zr_s (zq_get (k := 5) C dX3_reckonDownTo_27 (show vwCl[3]? = some (RX3, TX3, 9) from rfl) zinX3 (by decide) zw221)
    (zr_n (zr_n (zr_s (zq_iconst (n := .ofNat 1) C dX3_reckonDownTo_30 (by decide))
    (zr_s (zk_sub C dX3_reckonDownTo_31)
    zr_0))))))))))))))))
  (zrs_c (zr_s (zq_put (k := 5) C dX3_reckonDownTo_32 (show vwCl[3]? = some (RX3, TX3, 9) from rfl) zinX3 tyX3 tyX3_ok nmX3 (by decide) zw221 rfl (ty := .int) (by decide +kernel) rfl)
    (zr_n (zr_n (zr_s (zq_aload_n C dX3_reckonDownTo_35 rfl)
    (zr_s (zq_aload_n C dX3_reckonDownTo_36 rfl)
    (zr_s (zq_get (k := 1) C dX3_reckonDownTo_37 (show vwCl[3]? = some (RX3, TX3, 9) from rfl) zinX3 (by decide) zw217)
    (zr_n (zr_n (zr_s (zq_aload_n C dX3_reckonDownTo_40 rfl)
    (zr_s (zq_get (k := 5) C dX3_reckonDownTo_41 (show vwCl[3]? = some (RX3, TX3, 9) from rfl) zinX3 (by decide) zw221)
    (zr_n (zr_n (zr_s (zk_iald C dX3_reckonDownTo_44)
    (zr_s (zq_ineg C dX3_reckonDownTo_45)
    (zr_s (zk_callV (n := 1) C zXX_ok zTs_good hbc hbs (show zget zprog 39 = some mX3_emit from rfl) rfl rfl (show vwCl[3]? = some (RX3, TX3, 9) from rfl) zw195 zw192 zw194 zs5 zw4 (by decide +kernel) dX3_reckonDownTo_46)
    (zr_n zr_0))))))))))))))))
  (zrs_c (zr_n (zr_s (zk_goto C dX3_reckonDownTo_49 (by decide))
    (zr_n (zr_n (zr_s (zk_ret0 C hbc hbs rfl dX3_reckonDownTo_52)
    zr_0)))))
  zrs_0))))
set_option maxRecDepth 100000 in
set_option maxHeartbeats 4000000 in
theorem okX3_takeBehindThing {l : Launch} {D : va_G} {tys : List (ClassId × FieldType)} {o : zO} {z : Nat} (E : zEnv tys) : zCodeOk l D vwCl tys o z (zXX o z) zTs zprog mX3_takeBehindThing := by
  intro p e R s m args below meth c0 Q ws0 hbc hbs C pc sem h
  replace hbc : R.cells = 0 := hbc
  replace hbs : R.slots = 0 := hbs
  replace C : zCx p R s m args meth c0 D vwCl tys z (zXX o z) zTs RX3 cX3_takeBehindThing 3 "takeBehindThing" := C
  refine zRows_get (P := fun pc sem => zOp p l e R s m args below meth c0 Q D vwCl tys o z (zXX o z) zTs zprog ws0 3 cX3_takeBehindThing (some .boolean) pc sem) (c := kX3_takeBehindThing) ?_ h
  unfold kX3_takeBehindThing
  exact (zrs_c (zr_s (zq_iload_n C dX3_takeBehindThing_0 rfl)
    (zr_s (zk_callSN C zXX_ok zTs_good hbc hbs (show zget zprog 99 = some mX7_isDigit from rfl) rfl rfl zw191 (fun U H h => zn6 h) zw190 zw1 (by decide +kernel) dX3_takeBehindThing_1)
    (zr_n (zr_n (zr_s (zq_if_eq C dX3_takeBehindThing_4 (by decide))
    (zr_n (zr_n (zr_n (zr_n (zr_n (zr_n (zr_n (zr_n (zr_n (zr_n (zr_n zr_0))))))))))))))))
  (zrs_c (zr_s (zq_aload_n C dX3_takeBehindThing_16 rfl)
    (zr_s (zq_iconst (n := .ofNat 0) C dX3_takeBehindThing_17 (by decide))
    (zr_s (zq_put (k := 7) C dX3_takeBehindThing_18 (show vwCl[3]? = some (RX3, TX3, 9) from rfl) zinX3 tyX3 tyX3_ok nmX3 (by decide) zw223 rfl (ty := .int) (by decide +kernel) rfl)
    (zr_n (zr_n (zr_s (zq_iload_n C dX3_takeBehindThing_21 rfl)
    (zr_s (zq_bipush (n := .ofNat 41) C dX3_takeBehindThing_22 (by decide) (by decide))
    (zr_n (zr_s (zq_icmp_ne C dX3_takeBehindThing_24 (by decide))
    (zr_n (zr_n (zr_s (zq_aload_n C dX3_takeBehindThing_27 rfl)
    (zr_s (zk_callV (n := 0) C zXX_ok zTs_good hbc hbs (show zget zprog 38 = some mX3_closeBracket from rfl) rfl rfl (show vwCl[3]? = some (RX3, TX3, 9) from rfl) zw207 zw204 zw206 zs8 zw4 (by decide +kernel) dX3_takeBehindThing_28)
    (zr_n (zr_n (zr_s (zk_ret1 (ty := .boolean) C hbc hbs rfl rfl (Or.inl ⟨dX3_takeBehindThing_31, by decide⟩))
    zr_0))))))))))))))))
  (zrs_c (zr_s (zq_iload_n C dX3_takeBehindThing_32 rfl)
    (zr_s (zk_callS C zXX_ok zTs_good hbc hbs (show zget zprog 37 = some mX3_binding from rfl) rfl rfl zw214 zw212 zw213 zw4 (by decide +kernel) dX3_takeBehindThing_33)
    (zr_n (zr_n (zr_s (zq_istore_n C dX3_takeBehindThing_36 rfl (by decide))
    (zr_s (zq_iload_n C dX3_takeBehindThing_37 rfl)
    (zr_s (zq_if_eq C dX3_takeBehindThing_38 (by decide))
    (zr_n (zr_n (zr_s (zq_iload_n C dX3_takeBehindThing_41 rfl)
    (zr_s (zq_iconst (n := .ofNat 1) C dX3_takeBehindThing_42 (by decide))
    (zr_s (zq_icmp_ne C dX3_takeBehindThing_43 (by decide))
    (zr_n (zr_n (zr_s (zq_aload_n C dX3_takeBehindThing_46 rfl)
    (zr_s (zq_get (k := 3) C dX3_takeBehindThing_47 (show vwCl[3]? = some (RX3, TX3, 9) from rfl) zinX3 (by decide) zw219)
    zr_0))))))))))))))))
  (zrs_c (zr_n (zr_n (zr_s (zq_aload_n C dX3_takeBehindThing_50 rfl)
    (zr_s (zq_get (k := 6) C dX3_takeBehindThing_51 (show vwCl[3]? = some (RX3, TX3, 9) from rfl) zinX3 (by decide) zw222)
    (zr_n (zr_n (zr_s (zk_bald C dX3_takeBehindThing_54)
    (zr_s (zq_if_eq C dX3_takeBehindThing_55 (by decide))
    (zr_n (zr_n (zr_n (zr_n (zr_s (zq_aload_n C dX3_takeBehindThing_60 rfl)
    (zr_s (zq_get (k := 3) C dX3_takeBehindThing_61 (show vwCl[3]? = some (RX3, TX3, 9) from rfl) zinX3 (by decide) zw219)
    (zr_n (zr_n zr_0))))))))))))))))
  (zrs_c (zr_s (zq_aload_n C dX3_takeBehindThing_64 rfl)
    (zr_s (zq_get (k := 6) C dX3_takeBehindThing_65 (show vwCl[3]? = some (RX3, TX3, 9) from rfl) zinX3 (by decide) zw222)
    (zr_n (zr_n (zr_s (zq_aload_n C dX3_takeBehindThing_68 rfl)
    (zr_s (zq_get (k := 3) C dX3_takeBehindThing_69 (show vwCl[3]? = some (RX3, TX3, 9) from rfl) zinX3 (by decide) zw219)
    (zr_n (zr_n (zr_s (zq_aload_n C dX3_takeBehindThing_72 rfl)
    (zr_s (zq_get (k := 6) C dX3_takeBehindThing_73 (show vwCl[3]? = some (RX3, TX3, 9) from rfl) zinX3 (by decide) zw222)
    (zr_n (zr_n (zr_s (zk_bald C dX3_takeBehindThing_76)
    (zr_s (zq_if_ne C dX3_takeBehindThing_77 (by decide))
    (zr_n (zr_n zr_0))))))))))))))))
  (zrs_c (zr_s (zq_iload_n C dX3_takeBehindThing_80 rfl)
    (zr_s (zq_iconst (n := .ofNat 1) C dX3_takeBehindThing_81 (by decide))
    (zr_s (zq_icmp_ne C dX3_takeBehindThing_82 (by decide))
    (zr_n (zr_n (zr_s (zq_iconst (n := .ofNat 1) C dX3_takeBehindThing_85 (by decide))
    (zr_s (zk_goto C dX3_takeBehindThing_86 (by decide))
    (zr_n (zr_n (zr_s (zq_iconst (n := .ofNat 0) C dX3_takeBehindThing_89 (by decide))
    (zr_s (zk_bast C dX3_takeBehindThing_90)
    (zr_s (zq_aload_n C dX3_takeBehindThing_91 rfl)
    (zr_s (zq_iload_n C dX3_takeBehindThing_92 rfl)
    (zr_s (zk_callV (n := 1) C zXX_ok zTs_good hbc hbs (show zget zprog 44 = some mX3_reckonDownTo from rfl) rfl rfl (show vwCl[3]? = some (RX3, TX3, 9) from rfl) zw211 zw208 zw210 zs9 zw4 (by decide +kernel) dX3_takeBehindThing_93)
    (zr_n (zr_n zr_0))))))))))))))))
  (zrs_c (zr_s (zq_aload_n C dX3_takeBehindThing_96 rfl)
    (zr_s (zq_iload_n C dX3_takeBehindThing_97 rfl)
    (zr_s (zk_callV (n := 1) C zXX_ok zTs_good hbc hbs (show zget zprog 35 = some mX3_await from rfl) rfl rfl (show vwCl[3]? = some (RX3, TX3, 9) from rfl) zw124 zw121 zw123 zs3 zw4 (by decide +kernel) dX3_takeBehindThing_98)
    (zr_n (zr_n (zr_s (zq_aload_n C dX3_takeBehindThing_101 rfl)
    (zr_s (zq_iconst (n := .ofNat 1) C dX3_takeBehindThing_102 (by decide))
    (zr_s (zq_put (k := 8) C dX3_takeBehindThing_103 (show vwCl[3]? = some (RX3, TX3, 9) from rfl) zinX3 tyX3 tyX3_ok nmX3 (by decide) zw224 rfl (ty := .boolean) (by decide +kernel) rfl)
    (zr_n (zr_n (zr_s (zq_iconst (n := .ofNat 1) C dX3_takeBehindThing_106 (by decide))
    (zr_s (zk_ret1 (ty := .boolean) C hbc hbs rfl rfl (Or.inl ⟨dX3_takeBehindThing_107, by decide⟩))
    zr_0))))))))))))
  zrs_0)))))))
set_option maxRecDepth 100000 in
set_option maxHeartbeats 4000000 in
theorem okX3_takeThing {l : Launch} {D : va_G} {tys : List (ClassId × FieldType)} {o : zO} {z : Nat} (E : zEnv tys) : zCodeOk l D vwCl tys o z (zXX o z) zTs zprog mX3_takeThing := by
  intro p e R s m args below meth c0 Q ws0 hbc hbs C pc sem h
  replace hbc : R.cells = 0 := hbc
  replace hbs : R.slots = 0 := hbs
  replace C : zCx p R s m args meth c0 D vwCl tys z (zXX o z) zTs RX3 cX3_takeThing 3 "takeThing" := C
  refine zRows_get (P := fun pc sem => zOp p l e R s m args below meth c0 Q D vwCl tys o z (zXX o z) zTs zprog ws0 3 cX3_takeThing (some .boolean) pc sem) (c := kX3_takeThing) ?_ h
  unfold kX3_takeThing
  exact (zrs_c (zr_s (zq_iload_n C dX3_takeThing_0 rfl)
    (zr_s (zq_bipush (n := .ofNat 45) C dX3_takeThing_1 (by decide) (by decide))
    (zr_n (zr_s (zq_icmp_ne C dX3_takeThing_3 (by decide))
    (zr_n (zr_n (zr_n (zr_n (zr_n (zr_n (zr_n (zr_n (zr_n (zr_n (zr_n (zr_s (zq_iload_n C dX3_takeThing_15 rfl)
    zr_0))))))))))))))))
  (zrs_c (zr_s (zq_bipush (n := .ofNat 40) C dX3_takeThing_16 (by decide) (by decide))
    (zr_n (zr_s (zq_icmp_ne C dX3_takeThing_18 (by decide))
    (zr_n (zr_n (zr_s (zq_aload_n C dX3_takeThing_21 rfl)
    (zr_s (zk_callV (n := 0) C zXX_ok zTs_good hbc hbs (show zget zprog 41 = some mX3_openBracket from rfl) rfl rfl (show vwCl[3]? = some (RX3, TX3, 9) from rfl) zw128 zw125 zw127 zs4 zw4 (by decide +kernel) dX3_takeThing_22)
    (zr_n (zr_n (zr_s (zk_ret1 (ty := .boolean) C hbc hbs rfl rfl (Or.inl ⟨dX3_takeThing_25, by decide⟩))
    (zr_s (zq_ldcS (k := 2) C (by decide) dX3_takeThing_26 (fun U H h => zxR1 h))
    (zr_n (zr_s (zq_iload_n C dX3_takeThing_28 rfl)
    (zr_s (zq_i2c C dX3_takeThing_29)
    (zr_s (zk_callT (n := 1) C zXX_ok zTs_good (fun U H h => zxT h) hbc hbs (show zget zprog 4 = some mJ0_indexOf_0f7a4 from rfl) rfl rfl rfl zw133 zw130 zw131 zw132 zw5 (by decide +kernel) dX3_takeThing_30)
    (zr_n zr_0))))))))))))))))
  (zrs_c (zr_n (zr_s (zq_istore_n C dX3_takeThing_33 rfl (by decide))
    (zr_s (zq_iload_n C dX3_takeThing_34 rfl)
    (zr_s (zk_callSN C zXX_ok zTs_good hbc hbs (show zget zprog 99 = some mX7_isDigit from rfl) rfl rfl zw191 (fun U H h => zn6 h) zw190 zw1 (by decide +kernel) dX3_takeThing_35)
    (zr_n (zr_n (zr_s (zq_if_ne C dX3_takeThing_38 (by decide))
    (zr_n (zr_n (zr_s (zq_iload_n C dX3_takeThing_41 rfl)
    (zr_s (zq_if_ge C dX3_takeThing_42 (by decide))
    (zr_n (zr_n (zr_n (zr_n (zr_s (zq_aload_n C dX3_takeThing_47 rfl)
    zr_0))))))))))))))))
  (zrs_c (zr_s (zq_iload_n C dX3_takeThing_48 rfl)
    (zr_s (zq_if_ge C dX3_takeThing_49 (by decide))
    (zr_n (zr_n (zr_s (zq_iconst (n := .ofNat 1) C dX3_takeThing_52 (by decide))
    (zr_s (zk_goto C dX3_takeThing_53 (by decide))
    (zr_n (zr_n (zr_s (zq_iconst (n := .ofNat 0) C dX3_takeThing_56 (by decide))
    (zr_s (zq_put (k := 7) C dX3_takeThing_57 (show vwCl[3]? = some (RX3, TX3, 9) from rfl) zinX3 tyX3 tyX3_ok nmX3 (by decide) zw223 rfl (ty := .int) (by decide +kernel) rfl)
    (zr_n (zr_n (zr_s (zq_aload_n C dX3_takeThing_60 rfl)
    (zr_s (zq_iload_n C dX3_takeThing_61 rfl)
    (zr_s (zq_if_ge C dX3_takeThing_62 (by decide))
    (zr_n zr_0))))))))))))))))
  (zrs_c (zr_n (zr_s (zq_iload_n C dX3_takeThing_65 rfl)
    (zr_s (zq_bipush (n := .ofNat 48) C dX3_takeThing_66 (by decide) (by decide))
    (zr_n (zr_s (zk_sub C dX3_takeThing_68)
    (zr_s (zk_goto C dX3_takeThing_69 (by decide))
    (zr_n (zr_n (zr_s (zq_iconst (n := .negSucc 0) C dX3_takeThing_72 (by decide))
    (zr_s (zq_iload_n C dX3_takeThing_73 rfl)
    (zr_s (zk_sub C dX3_takeThing_74)
    (zr_s (zk_callV (n := 1) C zXX_ok zTs_good hbc hbs (show zget zprog 39 = some mX3_emit from rfl) rfl rfl (show vwCl[3]? = some (RX3, TX3, 9) from rfl) zw195 zw192 zw194 zs5 zw4 (by decide +kernel) dX3_takeThing_75)
    (zr_n (zr_n (zr_s (zq_aload_n C dX3_takeThing_78 rfl)
    (zr_s (zq_iconst (n := .ofNat 0) C dX3_takeThing_79 (by decide))
    zr_0))))))))))))))))
  (zrs_c (zr_s (zq_put (k := 8) C dX3_takeThing_80 (show vwCl[3]? = some (RX3, TX3, 9) from rfl) zinX3 tyX3 tyX3_ok nmX3 (by decide) zw224 rfl (ty := .boolean) (by decide +kernel) rfl)
    (zr_n (zr_n (zr_s (zq_iconst (n := .ofNat 1) C dX3_takeThing_83 (by decide))
    (zr_s (zk_ret1 (ty := .boolean) C hbc hbs rfl rfl (Or.inl ⟨dX3_takeThing_84, by decide⟩))
    zr_0)))))
  zrs_0))))))
set_option maxRecDepth 100000 in
set_option maxHeartbeats 4000000 in
theorem okX4_addLeast {l : Launch} {D : va_G} {tys : List (ClassId × FieldType)} {o : zO} {z : Nat} (E : zEnv tys) : zCodeOk l D vwCl tys o z (zXX o z) zTs zprog mX4_addLeast := by
  intro p e R s m args below meth c0 Q ws0 hbc hbs C pc sem h
  replace hbc : R.cells = 0 := hbc
  replace hbs : R.slots = 0 := hbs
  replace C : zCx p R s m args meth c0 D vwCl tys z (zXX o z) zTs RX4 cX4_addLeast 9 "addLeast" := C
  refine zRows_get (P := fun pc sem => zOp p l e R s m args below meth c0 Q D vwCl tys o z (zXX o z) zTs zprog ws0 9 cX4_addLeast none pc sem) (c := kX4_addLeast) ?_ h
  unfold kX4_addLeast
  exact (zrs_c (zr_s (zq_aload_n C dX4_addLeast_0 rfl)
    (zr_s (zq_get (k := 13) C dX4_addLeast_1 (show vwCl[4]? = some (RX4, TX4, 15) from rfl) zinX4 (by decide) zw371)
    (zr_n (zr_n (zr_s (zq_istore_n C dX4_addLeast_4 rfl (by decide))
    (zr_s (zq_iload_n C dX4_addLeast_5 rfl)
    (zr_s (zq_if_le C dX4_addLeast_6 (by decide))
    (zr_n (zr_n (zr_s (zq_iload_n C dX4_addLeast_9 rfl)
    (zr_s (zq_iload_n C dX4_addLeast_10 rfl)
    (zr_s (zq_iand C dX4_addLeast_11)
    (zr_s (zq_istore_n C dX4_addLeast_12 rfl (by decide))
    (zr_s (zq_aload_n C dX4_addLeast_13 rfl)
    (zr_s (zq_get (k := 7) C dX4_addLeast_14 (show vwCl[4]? = some (RX4, TX4, 15) from rfl) zinX4 (by decide) zw365)
    (zr_n zr_0))))))))))))))))
  (zrs_c (zr_n (zr_s (zq_iload_n C dX4_addLeast_17 rfl)
    (zr_s (zk_lald C dX4_addLeast_18)
    (zr_s (zq_lstore C dX4_addLeast_19 (by decide))
    (zr_n (zr_s (zq_iload_n C dX4_addLeast_21 rfl)
    (zr_s (zq_istore C dX4_addLeast_22 (by decide))
    (zr_n (zr_s (zq_iload C dX4_addLeast_24)
    (zr_n (zr_s (zq_if_le C dX4_addLeast_26 (by decide))
    (zr_n (zr_n (zr_n (zr_n (zr_n zr_0))))))))))))))))
  (zrs_c (zr_n (zr_n (zr_n (zr_n (zr_n (zr_n (zr_n (zr_n (zr_n (zr_n (zr_n (zr_n (zr_n (zr_n (zr_n (zr_n zr_0))))))))))))))))
  (zrs_c (zr_n (zr_n (zr_n (zr_n (zr_n (zr_n (zr_n (zr_n (zr_n (zr_n (zr_n (zr_n (zr_n (zr_n (zr_n (zr_n zr_0))))))))))))))))
  (zrs_c (zr_n (zr_n (zr_n (zr_n (zr_n (zr_n (zr_n (zr_s (zq_aload_n C dX4_addLeast_71 rfl)
    (zr_s (zq_get (k := 7) C dX4_addLeast_72 (show vwCl[4]? = some (RX4, TX4, 15) from rfl) zinX4 (by decide) zw365)
    (zr_n (zr_n (zr_s (zq_iload_n C dX4_addLeast_75 rfl)
    (zr_s (zq_lload C dX4_addLeast_76)
    (zr_n (zr_s (zk_last C dX4_addLeast_78)
    (zr_s (zk_inc (n := .negSucc 0) C dX4_addLeast_79 (by decide) (by decide))
    zr_0))))))))))))))))
  (zrs_c (zr_n (zr_n (zr_s (zk_goto C dX4_addLeast_82 (by decide))
    (zr_n (zr_n (zr_s (zk_ret0 C hbc hbs rfl dX4_addLeast_85)
    zr_0))))))
  zrs_0))))))
set_option maxRecDepth 100000 in
set_option maxHeartbeats 4000000 in
theorem okX4_addLeastMost {l : Launch} {D : va_G} {tys : List (ClassId × FieldType)} {o : zO} {z : Nat} (E : zEnv tys) : zCodeOk l D vwCl tys o z (zXX o z) zTs zprog mX4_addLeastMost := by
  intro p e R s m args below meth c0 Q ws0 hbc hbs C pc sem h
  replace hbc : R.cells = 0 := hbc
  replace hbs : R.slots = 0 := hbs
  replace C : zCx p R s m args meth c0 D vwCl tys z (zXX o z) zTs RX4 cX4_addLeastMost 9 "addLeastMost" := C
  refine zRows_get (P := fun pc sem => zOp p l e R s m args below meth c0 Q D vwCl tys o z (zXX o z) zTs zprog ws0 9 cX4_addLeastMost none pc sem) (c := kX4_addLeastMost) ?_ h
  unfold kX4_addLeastMost
  exact (zrs_c (zr_s (zq_aload_n C dX4_addLeastMost_0 rfl)
    (zr_s (zq_get (k := 13) C dX4_addLeastMost_1 (show vwCl[4]? = some (RX4, TX4, 15) from rfl) zinX4 (by decide) zw371)
    (zr_n (zr_n (zr_s (zq_istore_n C dX4_addLeastMost_4 rfl (by decide))
    (zr_s (zq_iload_n C dX4_addLeastMost_5 rfl)
    (zr_s (zq_if_le C dX4_addLeastMost_6 (by decide))
    (zr_n (zr_n (zr_s (zq_iload_n C dX4_addLeastMost_9 rfl)
    (zr_s (zq_iload_n C dX4_addLeastMost_10 rfl)
    (zr_s (zq_iand C dX4_addLeastMost_11)
    (zr_s (zq_istore_n C dX4_addLeastMost_12 rfl (by decide))
    (zr_s (zq_aload_n C dX4_addLeastMost_13 rfl)
    (zr_s (zq_get (k := 7) C dX4_addLeastMost_14 (show vwCl[4]? = some (RX4, TX4, 15) from rfl) zinX4 (by decide) zw365)
    (zr_n zr_0))))))))))))))))
  (zrs_c (zr_n (zr_s (zq_iload_n C dX4_addLeastMost_17 rfl)
    (zr_s (zk_lald C dX4_addLeastMost_18)
    (zr_s (zq_lstore C dX4_addLeastMost_19 (by decide))
    (zr_n (zr_s (zq_iload_n C dX4_addLeastMost_21 rfl)
    (zr_s (zq_istore C dX4_addLeastMost_22 (by decide))
    (zr_n (zr_s (zq_iload C dX4_addLeastMost_24)
    (zr_n (zr_s (zq_if_le C dX4_addLeastMost_26 (by decide))
    (zr_n (zr_n (zr_n (zr_n (zr_n zr_0))))))))))))))))
  (zrs_c (zr_n (zr_n (zr_n (zr_n (zr_n (zr_n (zr_n (zr_n (zr_n (zr_n (zr_n (zr_n (zr_n (zr_n (zr_n (zr_n zr_0))))))))))))))))
  (zrs_c (zr_n (zr_n (zr_n (zr_n (zr_n (zr_n (zr_n (zr_n (zr_n (zr_n (zr_n (zr_n (zr_n (zr_n (zr_n (zr_n zr_0))))))))))))))))
  (zrs_c (zr_n (zr_n (zr_n (zr_n (zr_n (zr_n (zr_n (zr_n (zr_n (zr_n (zr_n (zr_n (zr_n (zr_n (zr_n (zr_n zr_0))))))))))))))))
  (zrs_c (zr_n (zr_n (zr_n (zr_n (zr_n (zr_n (zr_n (zr_n (zr_n (zr_n (zr_n (zr_n (zr_n (zr_s (zq_aload_n C dX4_addLeastMost_93 rfl)
    (zr_s (zq_get (k := 7) C dX4_addLeastMost_94 (show vwCl[4]? = some (RX4, TX4, 15) from rfl) zinX4 (by decide) zw365)
    (zr_n zr_0))))))))))))))))
  (zrs_c (zr_n (zr_s (zq_iload_n C dX4_addLeastMost_97 rfl)
    (zr_s (zq_lload C dX4_addLeastMost_98)
    (zr_n (zr_s (zk_last C dX4_addLeastMost_100)
    (zr_s (zk_inc (n := .negSucc 0) C dX4_addLeastMost_101 (by decide) (by decide))
    (zr_n (zr_n (zr_s (zk_goto C dX4_addLeastMost_104 (by decide))
    (zr_n (zr_n (zr_s (zk_ret0 C hbc hbs rfl dX4_addLeastMost_107)
    zr_0))))))))))))
  zrs_0)))))))
set_option maxRecDepth 100000 in
set_option maxHeartbeats 4000000 in
theorem okX4_addStep {l : Launch} {D : va_G} {tys : List (ClassId × FieldType)} {o : zO} {z : Nat} (E : zEnv tys) : zCodeOk l D vwCl tys o z (zXX o z) zTs zprog mX4_addStep := by
  intro p e R s m args below meth c0 Q ws0 hbc hbs C pc sem h
  replace hbc : R.cells = 0 := hbc
  replace hbs : R.slots = 0 := hbs
  replace C : zCx p R s m args meth c0 D vwCl tys z (zXX o z) zTs RX4 cX4_addStep 4 "addStep" := C
  refine zRows_get (P := fun pc sem => zOp p l e R s m args below meth c0 Q D vwCl tys o z (zXX o z) zTs zprog ws0 4 cX4_addStep none pc sem) (c := kX4_addStep) ?_ h
  unfold kX4_addStep
  exact (zrs_c (zr_s (zq_iload_n C dX4_addStep_0 rfl)
    (zr_s (zq_if_ne C dX4_addStep_1 (by decide))
    (zr_n (zr_n (zr_s (zk_ret0 C hbc hbs rfl dX4_addStep_4)
    (zr_n (zr_n (zr_n (zr_n (zr_n (zr_n (zr_n (zr_n (zr_n (zr_n (zr_n zr_0))))))))))))))))
  (zrs_c (zr_n (zr_n (zr_n (zr_n (zr_n (zr_n (zr_n (zr_n (zr_n (zr_n (zr_n (zr_n (zr_n (zr_n (zr_n (zr_n zr_0))))))))))))))))
  (zrs_c (zr_n (zr_n (zr_n (zr_n (zr_n (zr_n (zr_n (zr_n (zr_n (zr_n (zr_n (zr_n (zr_n (zr_n (zr_n (zr_n zr_0))))))))))))))))
  (zrs_c (zr_n (zr_n (zr_n (zr_n (zr_n (zr_n zr_0))))))
  zrs_0))))
set_option maxRecDepth 100000 in
set_option maxHeartbeats 4000000 in
theorem okX4_addWays {l : Launch} {D : va_G} {tys : List (ClassId × FieldType)} {o : zO} {z : Nat} (E : zEnv tys) : zCodeOk l D vwCl tys o z (zXX o z) zTs zprog mX4_addWays := by
  intro p e R s m args below meth c0 Q ws0 hbc hbs C pc sem h
  replace hbc : R.cells = 0 := hbc
  replace hbs : R.slots = 0 := hbs
  replace C : zCx p R s m args meth c0 D vwCl tys z (zXX o z) zTs RX4 cX4_addWays 9 "addWays" := C
  refine zRows_get (P := fun pc sem => zOp p l e R s m args below meth c0 Q D vwCl tys o z (zXX o z) zTs zprog ws0 9 cX4_addWays none pc sem) (c := kX4_addWays) ?_ h
  unfold kX4_addWays
  exact (zrs_c (zr_s (zq_aload_n C dX4_addWays_0 rfl)
    (zr_s (zq_iload C dX4_addWays_1)
    (zr_n (zr_s (zk_callV (n := 1) C zXX_ok zTs_good hbc hbs (show zget zprog 61 = some mX4_weigh from rfl) rfl rfl (show vwCl[4]? = some (RX4, TX4, 15) from rfl) zw816 zw813 zw815 zs62 zw14 (by decide +kernel) dX4_addWays_3)
    (zr_n (zr_n (zr_s (zq_aload_n C dX4_addWays_6 rfl)
    (zr_s (zq_get (k := 13) C dX4_addWays_7 (show vwCl[4]? = some (RX4, TX4, 15) from rfl) zinX4 (by decide) zw371)
    (zr_n (zr_n (zr_s (zq_istore C dX4_addWays_10 (by decide))
    (zr_n (zr_s (zq_iload C dX4_addWays_12)
    (zr_n (zr_s (zq_if_lt C dX4_addWays_14 (by decide))
    (zr_n zr_0))))))))))))))))
  (zrs_c (zr_n (zr_s (zq_iload C dX4_addWays_17)
    (zr_n (zr_s (zq_aload_n C dX4_addWays_19 rfl)
    (zr_s (zq_get (k := 0) C dX4_addWays_20 (show vwCl[4]? = some (RX4, TX4, 15) from rfl) zinX4 (by decide) zw357)
    (zr_n (zr_n (zr_s (zq_iload C dX4_addWays_23)
    (zr_n (zr_s (zk_iald C dX4_addWays_25)
    (zr_s (zq_iand C dX4_addWays_26)
    (zr_s (zq_istore C dX4_addWays_27 (by decide))
    (zr_n (zr_s (zq_aload_n C dX4_addWays_29 rfl)
    (zr_s (zq_iload_n C dX4_addWays_30 rfl)
    (zr_s (zq_iload C dX4_addWays_31)
    zr_0))))))))))))))))
  (zrs_c (zr_n (zr_s (zk_add C dX4_addWays_33)
    (zr_s (zk_iald C dX4_addWays_34)
    (zr_s (zq_istore C dX4_addWays_35 (by decide))
    (zr_n (zr_s (zq_iload C dX4_addWays_37)
    (zr_n (zr_s (zq_istore C dX4_addWays_39 (by decide))
    (zr_n (zr_s (zq_iload C dX4_addWays_41)
    (zr_n (zr_s (zq_if_le C dX4_addWays_43 (by decide))
    (zr_n (zr_n (zr_n (zr_n zr_0))))))))))))))))
  (zrs_c (zr_n (zr_n (zr_n (zr_n (zr_n (zr_n (zr_n (zr_n (zr_n (zr_n (zr_n (zr_n (zr_n (zr_n (zr_n (zr_n zr_0))))))))))))))))
  (zrs_c (zr_n (zr_n (zr_n (zr_n (zr_n (zr_n (zr_n (zr_n (zr_n (zr_n (zr_n (zr_n (zr_n (zr_n (zr_n (zr_n zr_0))))))))))))))))
  (zrs_c (zr_n (zr_n (zr_n (zr_n (zr_n (zr_n (zr_s (zq_aload_n C dX4_addWays_86 rfl)
    (zr_s (zq_iload_n C dX4_addWays_87 rfl)
    (zr_s (zq_iload C dX4_addWays_88)
    (zr_n (zr_s (zk_add C dX4_addWays_90)
    (zr_s (zq_iload C dX4_addWays_91)
    (zr_n (zr_s (zk_iast C dX4_addWays_93)
    (zr_s (zk_inc (n := .negSucc 0) C dX4_addWays_94 (by decide) (by decide))
    (zr_n zr_0))))))))))))))))
  (zrs_c (zr_n (zr_s (zk_goto C dX4_addWays_97 (by decide))
    (zr_n (zr_n (zr_s (zk_ret0 C hbc hbs rfl dX4_addWays_100)
    zr_0)))))
  zrs_0)))))))
set_option maxRecDepth 100000 in
set_option maxHeartbeats 4000000 in
theorem okX4_canHold {l : Launch} {D : va_G} {tys : List (ClassId × FieldType)} {o : zO} {z : Nat} (E : zEnv tys) : zCodeOk l D vwCl tys o z (zXX o z) zTs zprog mX4_canHold := by
  intro p e R s m args below meth c0 Q ws0 hbc hbs C pc sem h
  replace hbc : R.cells = 0 := hbc
  replace hbs : R.slots = 0 := hbs
  replace C : zCx p R s m args meth c0 D vwCl tys z (zXX o z) zTs RX4 cX4_canHold 2 "canHold" := C
  refine zRows_get (P := fun pc sem => zOp p l e R s m args below meth c0 Q D vwCl tys o z (zXX o z) zTs zprog ws0 2 cX4_canHold (some .boolean) pc sem) (c := kX4_canHold) ?_ h
  unfold kX4_canHold
  exact (zrs_c (zr_s (zq_aload_n C dX4_canHold_0 rfl)
    (zr_s (zq_get (k := 7) C dX4_canHold_1 (show vwCl[4]? = some (RX4, TX4, 15) from rfl) zinX4 (by decide) zw365)
    (zr_n (zr_n (zr_s (zq_iload_n C dX4_canHold_4 rfl)
    (zr_s (zq_aload_n C dX4_canHold_5 rfl)
    (zr_s (zq_get (k := 13) C dX4_canHold_6 (show vwCl[4]? = some (RX4, TX4, 15) from rfl) zinX4 (by decide) zw371)
    (zr_n (zr_n (zr_s (zq_iand C dX4_canHold_9)
    (zr_s (zk_lald C dX4_canHold_10)
    (zr_s (zq_ldc2 (n := .ofNat 1152921504606846976) C dX4_canHold_11 zw812 (by decide +kernel))
    (zr_n (zr_n (zr_s (zk_lcmp C dX4_canHold_14)
    (zr_s (zq_if_ge C dX4_canHold_15 (by decide))
    zr_0))))))))))))))))
  (zrs_c (zr_n (zr_n (zr_n (zr_n (zr_n (zr_n (zr_s (zq_iconst (n := .ofNat 0) C dX4_canHold_22 (by decide))
    (zr_s (zk_ret1 (ty := .boolean) C hbc hbs rfl rfl (Or.inl ⟨dX4_canHold_23, by decide⟩))
    zr_0))))))))
  zrs_0))
set_option maxRecDepth 100000 in
set_option maxHeartbeats 4000000 in
theorem okX4_findLacks {l : Launch} {D : va_G} {tys : List (ClassId × FieldType)} {o : zO} {z : Nat} (E : zEnv tys) : zCodeOk l D vwCl tys o z (zXX o z) zTs zprog mX4_findLacks := by
  intro p e R s m args below meth c0 Q ws0 hbc hbs C pc sem h
  replace hbc : R.cells = 0 := hbc
  replace hbs : R.slots = 0 := hbs
  replace C : zCx p R s m args meth c0 D vwCl tys z (zXX o z) zTs RX4 cX4_findLacks 2 "findLacks" := C
  refine zRows_get (P := fun pc sem => zOp p l e R s m args below meth c0 Q D vwCl tys o z (zXX o z) zTs zprog ws0 2 cX4_findLacks none pc sem) (c := kX4_findLacks) ?_ h
  unfold kX4_findLacks
  exact (zrs_c (zr_s (zq_iconst (n := .ofNat 0) C dX4_findLacks_0 (by decide))
    (zr_s (zq_istore_n C dX4_findLacks_1 rfl (by decide))
    (zr_s (zq_iload_n C dX4_findLacks_2 rfl)
    (zr_s (zq_sipush (n := .ofNat 256) C dX4_findLacks_3 (by decide) (by decide))
    (zr_n (zr_n (zr_s (zq_icmp_ge C dX4_findLacks_6 (by decide))
    (zr_n (zr_n (zr_s (zq_aload_n C dX4_findLacks_9 rfl)
    (zr_s (zq_get (k := 11) C dX4_findLacks_10 (show vwCl[4]? = some (RX4, TX4, 15) from rfl) zinX4 (by decide) zw369)
    (zr_n (zr_n (zr_s (zq_iload_n C dX4_findLacks_13 rfl)
    (zr_s (zq_iload_n C dX4_findLacks_14 rfl)
    (zr_s (zq_if_ne C dX4_findLacks_15 (by decide))
    zr_0))))))))))))))))
  (zrs_c (zr_n (zr_n (zr_s (zq_iconst (n := .ofNat 1) C dX4_findLacks_18 (by decide))
    (zr_s (zk_goto C dX4_findLacks_19 (by decide))
    (zr_n (zr_n (zr_s (zq_iconst (n := .ofNat 0) C dX4_findLacks_22 (by decide))
    (zr_s (zk_bast C dX4_findLacks_23)
    (zr_s (zk_inc (n := .ofNat 1) C dX4_findLacks_24 (by decide) (by decide))
    (zr_n (zr_n (zr_s (zk_goto C dX4_findLacks_27 (by decide))
    (zr_n (zr_n (zr_s (zq_iconst (n := .ofNat 1) C dX4_findLacks_30 (by decide))
    (zr_s (zq_istore_n C dX4_findLacks_31 rfl (by decide))
    zr_0))))))))))))))))
  (zrs_c (zr_s (zq_iload_n C dX4_findLacks_32 rfl)
    (zr_s (zq_aload_n C dX4_findLacks_33 rfl)
    (zr_s (zq_get (k := 13) C dX4_findLacks_34 (show vwCl[4]? = some (RX4, TX4, 15) from rfl) zinX4 (by decide) zw371)
    (zr_n (zr_n (zr_s (zq_icmp_gt C dX4_findLacks_37 (by decide))
    (zr_n (zr_n (zr_s (zq_aload_n C dX4_findLacks_40 rfl)
    (zr_s (zq_iload_n C dX4_findLacks_41 rfl)
    (zr_s (zk_callV (n := 1) C zXX_ok zTs_good hbc hbs (show zget zprog 53 = some mX4_findLacksIn from rfl) rfl rfl (show vwCl[4]? = some (RX4, TX4, 15) from rfl) zw1024 zw1021 zw1023 zs87 zw14 (by decide +kernel) dX4_findLacks_42)
    (zr_n (zr_n (zr_s (zk_inc (n := .ofNat 1) C dX4_findLacks_45 (by decide) (by decide))
    (zr_n (zr_n zr_0))))))))))))))))
  (zrs_c (zr_s (zk_goto C dX4_findLacks_48 (by decide))
    (zr_n (zr_n (zr_s (zk_ret0 C hbc hbs rfl dX4_findLacks_51)
    zr_0))))
  zrs_0))))
set_option maxRecDepth 100000 in
set_option maxHeartbeats 4000000 in
theorem okX4_findLacksIn {l : Launch} {D : va_G} {tys : List (ClassId × FieldType)} {o : zO} {z : Nat} (E : zEnv tys) : zCodeOk l D vwCl tys o z (zXX o z) zTs zprog mX4_findLacksIn := by
  intro p e R s m args below meth c0 Q ws0 hbc hbs C pc sem h
  replace hbc : R.cells = 0 := hbc
  replace hbs : R.slots = 0 := hbs
  replace C : zCx p R s m args meth c0 D vwCl tys z (zXX o z) zTs RX4 cX4_findLacksIn 8 "findLacksIn" := C
  refine zRows_get (P := fun pc sem => zOp p l e R s m args below meth c0 Q D vwCl tys o z (zXX o z) zTs zprog ws0 8 cX4_findLacksIn none pc sem) (c := kX4_findLacksIn) ?_ h
  unfold kX4_findLacksIn
  exact (zrs_c (zr_s (zq_iload_n C dX4_findLacksIn_0 rfl)
    (zr_s (zk_callS C zXX_ok zTs_good hbc hbs (show zget zprog 14 = some mJ6_bitCount_0f7a4 from rfl) rfl rfl zw564 zw818 zw563 zw21 (by decide +kernel) dX4_findLacksIn_1)
    (zr_n (zr_n (zr_s (zq_istore_n C dX4_findLacksIn_4 rfl (by decide))
    (zr_s (zq_aload_n C dX4_findLacksIn_5 rfl)
    (zr_s (zq_get (k := 12) C dX4_findLacksIn_6 (show vwCl[4]? = some (RX4, TX4, 15) from rfl) zinX4 (by decide) zw370)
    (zr_n (zr_n (zr_s (zq_iconst (n := .ofNat 0) C dX4_findLacksIn_9 (by decide))
    (zr_s (zq_iconst (n := .ofNat 0) C dX4_findLacksIn_10 (by decide))
    (zr_s (zk_iast C dX4_findLacksIn_11)
    (zr_s (zq_iconst (n := .ofNat 0) C dX4_findLacksIn_12 (by decide))
    (zr_s (zq_istore_n C dX4_findLacksIn_13 rfl (by decide))
    (zr_s (zq_iload_n C dX4_findLacksIn_14 rfl)
    (zr_s (zq_bipush (n := .ofNat 8) C dX4_findLacksIn_15 (by decide) (by decide))
    zr_0))))))))))))))))
  (zrs_c (zr_n (zr_s (zq_icmp_ge C dX4_findLacksIn_17 (by decide))
    (zr_n (zr_n (zr_s (zq_iconst (n := .ofNat 1) C dX4_findLacksIn_20 (by decide))
    (zr_s (zq_iload_n C dX4_findLacksIn_21 rfl)
    (zr_s (zq_ishl C dX4_findLacksIn_22)
    (zr_s (zq_istore C dX4_findLacksIn_23 (by decide))
    (zr_n (zr_s (zq_aload_n C dX4_findLacksIn_25 rfl)
    (zr_s (zq_get (k := 1) C dX4_findLacksIn_26 (show vwCl[4]? = some (RX4, TX4, 15) from rfl) zinX4 (by decide) zw358)
    (zr_n (zr_n (zr_s (zq_iload_n C dX4_findLacksIn_29 rfl)
    (zr_s (zk_iald C dX4_findLacksIn_30)
    (zr_s (zq_aload_n C dX4_findLacksIn_31 rfl)
    zr_0))))))))))))))))
  (zrs_c (zr_s (zq_get (k := 0) C dX4_findLacksIn_32 (show vwCl[4]? = some (RX4, TX4, 15) from rfl) zinX4 (by decide) zw357)
    (zr_n (zr_n (zr_s (zq_iload_n C dX4_findLacksIn_35 rfl)
    (zr_s (zk_iald C dX4_findLacksIn_36)
    (zr_s (zq_iload_n C dX4_findLacksIn_37 rfl)
    (zr_s (zq_iand C dX4_findLacksIn_38)
    (zr_s (zk_callS C zXX_ok zTs_good hbc hbs (show zget zprog 14 = some mJ6_bitCount_0f7a4 from rfl) rfl rfl zw564 zw818 zw563 zw21 (by decide +kernel) dX4_findLacksIn_39)
    (zr_n (zr_n (zr_s (zq_min C hbc hbs dX4_findLacksIn_42 zw1025 zw149 zw9 zw150)
    (zr_n (zr_n (zr_s (zq_istore C dX4_findLacksIn_45 (by decide))
    (zr_n (zr_s (zq_iconst (n := .ofNat 0) C dX4_findLacksIn_47 (by decide))
    zr_0))))))))))))))))
  (zrs_c (zr_s (zq_istore C dX4_findLacksIn_48 (by decide))
    (zr_n (zr_s (zq_iload C dX4_findLacksIn_50)
    (zr_n (zr_s (zq_iload C dX4_findLacksIn_52)
    (zr_n (zr_s (zq_icmp_ge C dX4_findLacksIn_54 (by decide))
    (zr_n (zr_n (zr_s (zq_aload_n C dX4_findLacksIn_57 rfl)
    (zr_s (zq_get (k := 12) C dX4_findLacksIn_58 (show vwCl[4]? = some (RX4, TX4, 15) from rfl) zinX4 (by decide) zw370)
    (zr_n (zr_n (zr_s (zq_iload C dX4_findLacksIn_61)
    (zr_n (zr_s (zk_iald C dX4_findLacksIn_63)
    zr_0))))))))))))))))
  (zrs_c (zr_s (zq_iload C dX4_findLacksIn_64)
    (zr_n (zr_s (zk_add C dX4_findLacksIn_66)
    (zr_s (zq_istore C dX4_findLacksIn_67 (by decide))
    (zr_n (zr_s (zq_aload_n C dX4_findLacksIn_69 rfl)
    (zr_s (zq_get (k := 12) C dX4_findLacksIn_70 (show vwCl[4]? = some (RX4, TX4, 15) from rfl) zinX4 (by decide) zw370)
    (zr_n (zr_n (zr_s (zq_iload C dX4_findLacksIn_73)
    (zr_n (zr_s (zq_iload C dX4_findLacksIn_75)
    (zr_n (zr_s (zk_add C dX4_findLacksIn_77)
    (zr_s (zq_iload C dX4_findLacksIn_78)
    (zr_n zr_0))))))))))))))))
  (zrs_c (zr_s (zk_iast C dX4_findLacksIn_80)
    (zr_s (zq_iload C dX4_findLacksIn_81)
    (zr_n (zr_s (zq_iload_n C dX4_findLacksIn_83 rfl)
    (zr_s (zq_icmp_ge C dX4_findLacksIn_84 (by decide))
    (zr_n (zr_n (zr_s (zq_aload_n C dX4_findLacksIn_87 rfl)
    (zr_s (zq_get (k := 11) C dX4_findLacksIn_88 (show vwCl[4]? = some (RX4, TX4, 15) from rfl) zinX4 (by decide) zw369)
    (zr_n (zr_n (zr_s (zq_iload C dX4_findLacksIn_91)
    (zr_n (zr_s (zq_iload C dX4_findLacksIn_93)
    (zr_n (zr_s (zk_add C dX4_findLacksIn_95)
    zr_0))))))))))))))))
  (zrs_c (zr_s (zq_iconst (n := .ofNat 1) C dX4_findLacksIn_96 (by decide))
    (zr_s (zk_bast C dX4_findLacksIn_97)
    (zr_s (zk_inc (n := .ofNat 1) C dX4_findLacksIn_98 (by decide) (by decide))
    (zr_n (zr_n (zr_s (zk_goto C dX4_findLacksIn_101 (by decide))
    (zr_n (zr_n (zr_s (zk_inc (n := .ofNat 1) C dX4_findLacksIn_104 (by decide) (by decide))
    (zr_n (zr_n (zr_s (zk_goto C dX4_findLacksIn_107 (by decide))
    (zr_n (zr_n (zr_s (zk_ret0 C hbc hbs rfl dX4_findLacksIn_110)
    zr_0)))))))))))))))
  zrs_0)))))))
set_option maxRecDepth 100000 in
set_option maxHeartbeats 4000000 in
theorem okX4_init {l : Launch} {D : va_G} {tys : List (ClassId × FieldType)} {o : zO} {z : Nat} (E : zEnv tys) : zCodeOk l D vwCl tys o z (zXX o z) zTs zprog mX4_init := by
  intro p e R s m args below meth c0 Q ws0 hbc hbs C pc sem h
  replace hbc : R.cells = 13 := hbc
  replace hbs : R.slots = 3752 := hbs
  replace C : zCx p R s m args meth c0 D vwCl tys z (zXX o z) zTs RX4 cX4_init 1 "<init>" := C
  refine zRows_get (P := fun pc sem => zOp p l e R s m args below meth c0 Q D vwCl tys o z (zXX o z) zTs zprog ws0 1 cX4_init none pc sem) (c := kX4_init) ?_ h
  unfold kX4_init
  exact (zrs_c (zr_s (zq_aload_n C dX4_init_0 rfl)
    (zr_s (zk_objInit C dX4_init_1 zw356 zw29 zw30)
    (zr_n (zr_n (zr_s (zq_aload_n C dX4_init_4 rfl)
    (zr_s (zq_bipush (n := .ofNat 8) C dX4_init_5 (by decide) (by decide))
    (zr_n (zr_s (zq_newI C hbc hbs dX4_init_7 zw47 E.1)
    (zr_n (zr_s (zq_putF (k := 0) C dX4_init_9 (show vwCl[4]? = some (RX4, TX4, 15) from rfl) zinX4 tyX4 tyX4_ok nmX4 (by decide) zw357 rfl rfl rfl (ty := (.array .int)) (by decide +kernel) rfl)
    (zr_n (zr_n (zr_s (zq_aload_n C dX4_init_12 rfl)
    (zr_s (zq_bipush (n := .ofNat 8) C dX4_init_13 (by decide) (by decide))
    (zr_n (zr_s (zq_newI C hbc hbs dX4_init_15 zw47 E.1)
    zr_0))))))))))))))))
  (zrs_c (zr_n (zr_s (zq_putF (k := 1) C dX4_init_17 (show vwCl[4]? = some (RX4, TX4, 15) from rfl) zinX4 tyX4 tyX4_ok nmX4 (by decide) zw358 rfl rfl rfl (ty := (.array .int)) (by decide +kernel) rfl)
    (zr_n (zr_n (zr_s (zq_aload_n C dX4_init_20 rfl)
    (zr_s (zq_bipush (n := .ofNat 8) C dX4_init_21 (by decide) (by decide))
    (zr_n (zr_s (zq_newI C hbc hbs dX4_init_23 zw47 E.1)
    (zr_n (zr_s (zq_putF (k := 2) C dX4_init_25 (show vwCl[4]? = some (RX4, TX4, 15) from rfl) zinX4 tyX4 tyX4_ok nmX4 (by decide) zw359 rfl rfl rfl (ty := (.array .int)) (by decide +kernel) rfl)
    (zr_n (zr_n (zr_s (zq_aload_n C dX4_init_28 rfl)
    (zr_s (zq_bipush (n := .ofNat 8) C dX4_init_29 (by decide) (by decide))
    (zr_n (zr_s (zq_newI C hbc hbs dX4_init_31 zw47 E.1)
    zr_0))))))))))))))))
  (zrs_c (zr_n (zr_s (zq_putF (k := 3) C dX4_init_33 (show vwCl[4]? = some (RX4, TX4, 15) from rfl) zinX4 tyX4 tyX4_ok nmX4 (by decide) zw360 rfl rfl rfl (ty := (.array .int)) (by decide +kernel) rfl)
    (zr_n (zr_n (zr_s (zq_aload_n C dX4_init_36 rfl)
    (zr_s (zq_bipush (n := .ofNat 64) C dX4_init_37 (by decide) (by decide))
    (zr_n (zr_s (zq_newJ C hbc hbs dX4_init_39 zw406 E.2.1)
    (zr_n (zr_s (zq_putF (k := 4) C dX4_init_41 (show vwCl[4]? = some (RX4, TX4, 15) from rfl) zinX4 tyX4 tyX4_ok nmX4 (by decide) zw361 rfl rfl rfl (ty := (.array .long)) (by decide +kernel) rfl)
    (zr_n (zr_n (zr_s (zq_aload_n C dX4_init_44 rfl)
    (zr_s (zq_bipush (n := .ofNat 8) C dX4_init_45 (by decide) (by decide))
    (zr_n (zr_s (zq_newJ C hbc hbs dX4_init_47 zw406 E.2.1)
    zr_0))))))))))))))))
  (zrs_c (zr_n (zr_s (zq_putF (k := 5) C dX4_init_49 (show vwCl[4]? = some (RX4, TX4, 15) from rfl) zinX4 tyX4 tyX4_ok nmX4 (by decide) zw362 rfl rfl rfl (ty := (.array .long)) (by decide +kernel) rfl)
    (zr_n (zr_n (zr_s (zq_aload_n C dX4_init_52 rfl)
    (zr_s (zq_sipush (n := .ofNat 256) C dX4_init_53 (by decide) (by decide))
    (zr_n (zr_n (zr_s (zq_newJ C hbc hbs dX4_init_56 zw406 E.2.1)
    (zr_n (zr_s (zq_putF (k := 6) C dX4_init_58 (show vwCl[4]? = some (RX4, TX4, 15) from rfl) zinX4 tyX4 tyX4_ok nmX4 (by decide) zw364 rfl rfl rfl (ty := (.array .long)) (by decide +kernel) rfl)
    (zr_n (zr_n (zr_s (zq_aload_n C dX4_init_61 rfl)
    (zr_s (zq_sipush (n := .ofNat 256) C dX4_init_62 (by decide) (by decide))
    (zr_n zr_0))))))))))))))))
  (zrs_c (zr_n (zr_s (zq_newJ C hbc hbs dX4_init_65 zw406 E.2.1)
    (zr_n (zr_s (zq_putF (k := 7) C dX4_init_67 (show vwCl[4]? = some (RX4, TX4, 15) from rfl) zinX4 tyX4 tyX4_ok nmX4 (by decide) zw365 rfl rfl rfl (ty := (.array .long)) (by decide +kernel) rfl)
    (zr_n (zr_n (zr_s (zq_aload_n C dX4_init_70 rfl)
    (zr_s (zq_sipush (n := .ofNat 2304) C dX4_init_71 (by decide) (by decide))
    (zr_n (zr_n (zr_s (zq_newI C hbc hbs dX4_init_74 zw47 E.1)
    (zr_n (zr_s (zq_putF (k := 8) C dX4_init_76 (show vwCl[4]? = some (RX4, TX4, 15) from rfl) zinX4 tyX4 tyX4_ok nmX4 (by decide) zw366 rfl rfl rfl (ty := (.array .int)) (by decide +kernel) rfl)
    (zr_n (zr_n (zr_s (zq_aload_n C dX4_init_79 rfl)
    zr_0))))))))))))))))
  (zrs_c (zr_s (zq_sipush (n := .ofNat 256) C dX4_init_80 (by decide) (by decide))
    (zr_n (zr_n (zr_s (zq_newI C hbc hbs dX4_init_83 zw47 E.1)
    (zr_n (zr_s (zq_putF (k := 9) C dX4_init_85 (show vwCl[4]? = some (RX4, TX4, 15) from rfl) zinX4 tyX4 tyX4_ok nmX4 (by decide) zw367 rfl rfl rfl (ty := (.array .int)) (by decide +kernel) rfl)
    (zr_n (zr_n (zr_s (zq_aload_n C dX4_init_88 rfl)
    (zr_s (zq_bipush (n := .ofNat 64) C dX4_init_89 (by decide) (by decide))
    (zr_n (zr_s (zq_newI C hbc hbs dX4_init_91 zw47 E.1)
    (zr_n (zr_s (zq_putF (k := 10) C dX4_init_93 (show vwCl[4]? = some (RX4, TX4, 15) from rfl) zinX4 tyX4 tyX4_ok nmX4 (by decide) zw368 rfl rfl rfl (ty := (.array .int)) (by decide +kernel) rfl)
    (zr_n (zr_n zr_0))))))))))))))))
  (zrs_c (zr_s (zq_aload_n C dX4_init_96 rfl)
    (zr_s (zq_sipush (n := .ofNat 256) C dX4_init_97 (by decide) (by decide))
    (zr_n (zr_n (zr_s (zq_newZ C hbc hbs dX4_init_100 zw244 E.2.2.1)
    (zr_n (zr_s (zq_putF (k := 11) C dX4_init_102 (show vwCl[4]? = some (RX4, TX4, 15) from rfl) zinX4 tyX4 tyX4_ok nmX4 (by decide) zw369 rfl rfl rfl (ty := (.array .boolean)) (by decide +kernel) rfl)
    (zr_n (zr_n (zr_s (zq_aload_n C dX4_init_105 rfl)
    (zr_s (zq_sipush (n := .ofNat 256) C dX4_init_106 (by decide) (by decide))
    (zr_n (zr_n (zr_s (zq_newI C hbc hbs dX4_init_109 zw47 E.1)
    (zr_n (zr_s (zq_putF (k := 12) C dX4_init_111 (show vwCl[4]? = some (RX4, TX4, 15) from rfl) zinX4 tyX4 tyX4_ok nmX4 (by decide) zw370 rfl rfl rfl (ty := (.array .int)) (by decide +kernel) rfl)
    zr_0))))))))))))))))
  (zrs_c (zr_n (zr_n (zr_s (zk_ret0 C hbc hbs rfl dX4_init_114)
    zr_0)))
  zrs_0))))))))
set_option maxRecDepth 100000 in
set_option maxHeartbeats 4000000 in
theorem okX4_lacks {l : Launch} {D : va_G} {tys : List (ClassId × FieldType)} {o : zO} {z : Nat} (E : zEnv tys) : zCodeOk l D vwCl tys o z (zXX o z) zTs zprog mX4_lacks := by
  intro p e R s m args below meth c0 Q ws0 hbc hbs C pc sem h
  replace hbc : R.cells = 0 := hbc
  replace hbs : R.slots = 0 := hbs
  replace C : zCx p R s m args meth c0 D vwCl tys z (zXX o z) zTs RX4 cX4_lacks 2 "lacks" := C
  refine zRows_get (P := fun pc sem => zOp p l e R s m args below meth c0 Q D vwCl tys o z (zXX o z) zTs zprog ws0 2 cX4_lacks (some .boolean) pc sem) (c := kX4_lacks) ?_ h
  unfold kX4_lacks
  exact (zrs_c (zr_s (zq_aload_n C dX4_lacks_0 rfl)
    (zr_s (zq_get (k := 11) C dX4_lacks_1 (show vwCl[4]? = some (RX4, TX4, 15) from rfl) zinX4 (by decide) zw369)
    (zr_n (zr_n (zr_s (zq_iload_n C dX4_lacks_4 rfl)
    (zr_s (zq_sipush (n := .ofNat 255) C dX4_lacks_5 (by decide) (by decide))
    (zr_n (zr_n (zr_s (zq_iand C dX4_lacks_8)
    (zr_s (zk_bald C dX4_lacks_9)
    (zr_s (zk_ret1 (ty := .boolean) C hbc hbs rfl rfl (Or.inl ⟨dX4_lacks_10, by decide⟩))
    zr_0)))))))))))
  zrs_0)
set_option maxRecDepth 100000 in
set_option maxHeartbeats 4000000 in
theorem okX4_least {l : Launch} {D : va_G} {tys : List (ClassId × FieldType)} {o : zO} {z : Nat} (E : zEnv tys) : zCodeOk l D vwCl tys o z (zXX o z) zTs zprog mX4_least := by
  intro p e R s m args below meth c0 Q ws0 hbc hbs C pc sem h
  replace hbc : R.cells = 0 := hbc
  replace hbs : R.slots = 0 := hbs
  replace C : zCx p R s m args meth c0 D vwCl tys z (zXX o z) zTs RX4 cX4_least 2 "least" := C
  refine zRows_get (P := fun pc sem => zOp p l e R s m args below meth c0 Q D vwCl tys o z (zXX o z) zTs zprog ws0 2 cX4_least (some .long) pc sem) (c := kX4_least) ?_ h
  unfold kX4_least
  exact (zrs_c (zr_s (zq_aload_n C dX4_least_0 rfl)
    (zr_s (zq_get (k := 7) C dX4_least_1 (show vwCl[4]? = some (RX4, TX4, 15) from rfl) zinX4 (by decide) zw365)
    (zr_n (zr_n (zr_s (zq_ldc2 (n := .ofNat 1152921504606846976) C dX4_least_4 zw812 (by decide +kernel))
    (zr_n (zr_n (zr_s (zk_callS C zXX_ok zTs_good hbc hbs (show zget zprog 17 = some mJ7_fill_d0a16 from rfl) rfl rfl zw790 zw788 zw789 zw12 (by decide +kernel) dX4_least_7)
    (zr_n (zr_n (zr_s (zq_aload_n C dX4_least_10 rfl)
    (zr_s (zq_get (k := 7) C dX4_least_11 (show vwCl[4]? = some (RX4, TX4, 15) from rfl) zinX4 (by decide) zw365)
    (zr_n (zr_n (zr_s (zq_iconst (n := .ofNat 0) C dX4_least_14 (by decide))
    (zr_s (zq_lconst (n := .ofNat 0) C dX4_least_15 (by decide) (by decide))
    zr_0))))))))))))))))
  (zrs_c (zr_s (zk_last C dX4_least_16)
    (zr_s (zq_iconst (n := .ofNat 0) C dX4_least_17 (by decide))
    (zr_s (zq_istore_n C dX4_least_18 rfl (by decide))
    (zr_s (zq_iload_n C dX4_least_19 rfl)
    (zr_s (zq_bipush (n := .ofNat 8) C dX4_least_20 (by decide) (by decide))
    (zr_n (zr_s (zq_icmp_ge C dX4_least_22 (by decide))
    (zr_n (zr_n (zr_s (zq_aload_n C dX4_least_25 rfl)
    (zr_s (zq_aload_n C dX4_least_26 rfl)
    (zr_s (zq_get (k := 2) C dX4_least_27 (show vwCl[4]? = some (RX4, TX4, 15) from rfl) zinX4 (by decide) zw359)
    (zr_n (zr_n (zr_s (zq_iload_n C dX4_least_30 rfl)
    (zr_s (zk_iald C dX4_least_31)
    zr_0))))))))))))))))
  (zrs_c (zr_s (zk_callV (n := 1) C zXX_ok zTs_good hbc hbs (show zget zprog 61 = some mX4_weigh from rfl) rfl rfl (show vwCl[4]? = some (RX4, TX4, 15) from rfl) zw816 zw813 zw815 zs62 zw14 (by decide +kernel) dX4_least_32)
    (zr_n (zr_n (zr_s (zq_aload_n C dX4_least_35 rfl)
    (zr_s (zq_aload_n C dX4_least_36 rfl)
    (zr_s (zq_get (k := 0) C dX4_least_37 (show vwCl[4]? = some (RX4, TX4, 15) from rfl) zinX4 (by decide) zw357)
    (zr_n (zr_n (zr_s (zq_aload_n C dX4_least_40 rfl)
    (zr_s (zq_get (k := 2) C dX4_least_41 (show vwCl[4]? = some (RX4, TX4, 15) from rfl) zinX4 (by decide) zw359)
    (zr_n (zr_n (zr_s (zq_iload_n C dX4_least_44 rfl)
    (zr_s (zk_iald C dX4_least_45)
    (zr_s (zk_iald C dX4_least_46)
    (zr_s (zk_callV (n := 1) C zXX_ok zTs_good hbc hbs (show zget zprog 47 = some mX4_addLeast from rfl) rfl rfl (show vwCl[4]? = some (RX4, TX4, 15) from rfl) zw822 zw819 zw821 zs63 zw14 (by decide +kernel) dX4_least_47)
    zr_0))))))))))))))))
  (zrs_c (zr_n (zr_n (zr_s (zq_aload_n C dX4_least_50 rfl)
    (zr_s (zq_aload_n C dX4_least_51 rfl)
    (zr_s (zq_get (k := 3) C dX4_least_52 (show vwCl[4]? = some (RX4, TX4, 15) from rfl) zinX4 (by decide) zw360)
    (zr_n (zr_n (zr_s (zq_iload_n C dX4_least_55 rfl)
    (zr_s (zk_iald C dX4_least_56)
    (zr_s (zk_callV (n := 1) C zXX_ok zTs_good hbc hbs (show zget zprog 49 = some mX4_addStep from rfl) rfl rfl (show vwCl[4]? = some (RX4, TX4, 15) from rfl) zw826 zw823 zw825 zs64 zw14 (by decide +kernel) dX4_least_57)
    (zr_n (zr_n (zr_s (zk_inc (n := .ofNat 1) C dX4_least_60 (by decide) (by decide))
    (zr_n (zr_n (zr_s (zk_goto C dX4_least_63 (by decide))
    zr_0))))))))))))))))
  (zrs_c (zr_n (zr_n (zr_s (zq_aload_n C dX4_least_66 rfl)
    (zr_s (zq_get (k := 7) C dX4_least_67 (show vwCl[4]? = some (RX4, TX4, 15) from rfl) zinX4 (by decide) zw365)
    (zr_n (zr_n (zr_s (zq_aload_n C dX4_least_70 rfl)
    (zr_s (zq_get (k := 13) C dX4_least_71 (show vwCl[4]? = some (RX4, TX4, 15) from rfl) zinX4 (by decide) zw371)
    (zr_n (zr_n (zr_s (zk_lald C dX4_least_74)
    (zr_s (zk_ret1 C hbc hbs rfl rfl (Or.inr ⟨dX4_least_75, rfl⟩))
    zr_0))))))))))))
  zrs_0)))))
set_option maxRecDepth 100000 in
set_option maxHeartbeats 4000000 in
theorem okX4_leastMost {l : Launch} {D : va_G} {tys : List (ClassId × FieldType)} {o : zO} {z : Nat} (E : zEnv tys) : zCodeOk l D vwCl tys o z (zXX o z) zTs zprog mX4_leastMost := by
  intro p e R s m args below meth c0 Q ws0 hbc hbs C pc sem h
  replace hbc : R.cells = 0 := hbc
  replace hbs : R.slots = 0 := hbs
  replace C : zCx p R s m args meth c0 D vwCl tys z (zXX o z) zTs RX4 cX4_leastMost 2 "leastMost" := C
  refine zRows_get (P := fun pc sem => zOp p l e R s m args below meth c0 Q D vwCl tys o z (zXX o z) zTs zprog ws0 2 cX4_leastMost (some .long) pc sem) (c := kX4_leastMost) ?_ h
  unfold kX4_leastMost
  exact (zrs_c (zr_s (zq_aload_n C dX4_leastMost_0 rfl)
    (zr_s (zq_get (k := 7) C dX4_leastMost_1 (show vwCl[4]? = some (RX4, TX4, 15) from rfl) zinX4 (by decide) zw365)
    (zr_n (zr_n (zr_s (zq_ldc2 (n := .ofNat 1152921504606846976) C dX4_leastMost_4 zw812 (by decide +kernel))
    (zr_n (zr_n (zr_s (zk_callS C zXX_ok zTs_good hbc hbs (show zget zprog 17 = some mJ7_fill_d0a16 from rfl) rfl rfl zw790 zw788 zw789 zw12 (by decide +kernel) dX4_leastMost_7)
    (zr_n (zr_n (zr_s (zq_aload_n C dX4_leastMost_10 rfl)
    (zr_s (zq_get (k := 7) C dX4_leastMost_11 (show vwCl[4]? = some (RX4, TX4, 15) from rfl) zinX4 (by decide) zw365)
    (zr_n (zr_n (zr_s (zq_iconst (n := .ofNat 0) C dX4_leastMost_14 (by decide))
    (zr_s (zq_lconst (n := .ofNat 0) C dX4_leastMost_15 (by decide) (by decide))
    zr_0))))))))))))))))
  (zrs_c (zr_s (zk_last C dX4_leastMost_16)
    (zr_s (zq_iconst (n := .ofNat 0) C dX4_leastMost_17 (by decide))
    (zr_s (zq_istore_n C dX4_leastMost_18 rfl (by decide))
    (zr_s (zq_iload_n C dX4_leastMost_19 rfl)
    (zr_s (zq_bipush (n := .ofNat 8) C dX4_leastMost_20 (by decide) (by decide))
    (zr_n (zr_s (zq_icmp_ge C dX4_leastMost_22 (by decide))
    (zr_n (zr_n (zr_s (zq_aload_n C dX4_leastMost_25 rfl)
    (zr_s (zq_iload_n C dX4_leastMost_26 rfl)
    (zr_s (zk_callV (n := 1) C zXX_ok zTs_good hbc hbs (show zget zprog 61 = some mX4_weigh from rfl) rfl rfl (show vwCl[4]? = some (RX4, TX4, 15) from rfl) zw816 zw813 zw815 zs62 zw14 (by decide +kernel) dX4_leastMost_27)
    (zr_n (zr_n (zr_s (zq_aload_n C dX4_leastMost_30 rfl)
    (zr_s (zq_aload_n C dX4_leastMost_31 rfl)
    zr_0))))))))))))))))
  (zrs_c (zr_s (zq_get (k := 0) C dX4_leastMost_32 (show vwCl[4]? = some (RX4, TX4, 15) from rfl) zinX4 (by decide) zw357)
    (zr_n (zr_n (zr_s (zq_iload_n C dX4_leastMost_35 rfl)
    (zr_s (zk_iald C dX4_leastMost_36)
    (zr_s (zk_callV (n := 1) C zXX_ok zTs_good hbc hbs (show zget zprog 48 = some mX4_addLeastMost from rfl) rfl rfl (show vwCl[4]? = some (RX4, TX4, 15) from rfl) zw904 zw901 zw903 zs73 zw14 (by decide +kernel) dX4_leastMost_37)
    (zr_n (zr_n (zr_s (zk_inc (n := .ofNat 1) C dX4_leastMost_40 (by decide) (by decide))
    (zr_n (zr_n (zr_s (zk_goto C dX4_leastMost_43 (by decide))
    (zr_n (zr_n (zr_s (zq_aload_n C dX4_leastMost_46 rfl)
    (zr_s (zq_get (k := 7) C dX4_leastMost_47 (show vwCl[4]? = some (RX4, TX4, 15) from rfl) zinX4 (by decide) zw365)
    zr_0))))))))))))))))
  (zrs_c (zr_n (zr_n (zr_s (zq_aload_n C dX4_leastMost_50 rfl)
    (zr_s (zq_get (k := 13) C dX4_leastMost_51 (show vwCl[4]? = some (RX4, TX4, 15) from rfl) zinX4 (by decide) zw371)
    (zr_n (zr_n (zr_s (zk_lald C dX4_leastMost_54)
    (zr_s (zk_ret1 C hbc hbs rfl rfl (Or.inr ⟨dX4_leastMost_55, rfl⟩))
    zr_0))))))))
  zrs_0))))
set_option maxRecDepth 100000 in
set_option maxHeartbeats 4000000 in
theorem okX4_open {l : Launch} {D : va_G} {tys : List (ClassId × FieldType)} {o : zO} {z : Nat} (E : zEnv tys) : zCodeOk l D vwCl tys o z (zXX o z) zTs zprog mX4_open := by
  intro p e R s m args below meth c0 Q ws0 hbc hbs C pc sem h
  replace hbc : R.cells = 0 := hbc
  replace hbs : R.slots = 0 := hbs
  replace C : zCx p R s m args meth c0 D vwCl tys z (zXX o z) zTs RX4 cX4_open 3 "open" := C
  refine zRows_get (P := fun pc sem => zOp p l e R s m args below meth c0 Q D vwCl tys o z (zXX o z) zTs zprog ws0 3 cX4_open none pc sem) (c := kX4_open) ?_ h
  unfold kX4_open
  exact (zrs_c (zr_s (zq_aload_n C dX4_open_0 rfl)
    (zr_s (zq_iconst (n := .ofNat 1) C dX4_open_1 (by decide))
    (zr_s (zq_iload_n C dX4_open_2 rfl)
    (zr_s (zq_ishl C dX4_open_3)
    (zr_s (zq_iconst (n := .ofNat 1) C dX4_open_4 (by decide))
    (zr_s (zk_sub C dX4_open_5)
    (zr_s (zq_put (k := 13) C dX4_open_6 (show vwCl[4]? = some (RX4, TX4, 15) from rfl) zinX4 tyX4 tyX4_ok nmX4 (by decide) zw371 rfl (ty := .int) (by decide +kernel) rfl)
    (zr_n (zr_n (zr_s (zq_aload_n C dX4_open_9 rfl)
    (zr_s (zq_ldc2 (n := .ofNat 1152921504606846975) C dX4_open_10 zw786 (by decide +kernel))
    (zr_n (zr_n (zr_s (zq_put (k := 14) C dX4_open_13 (show vwCl[4]? = some (RX4, TX4, 15) from rfl) zinX4 tyX4 tyX4_ok nmX4 (by decide) zw373 rfl (ty := .long) (by decide +kernel) rfl)
    (zr_n (zr_n zr_0))))))))))))))))
  (zrs_c (zr_s (zq_aload_n C dX4_open_16 rfl)
    (zr_s (zq_get (k := 0) C dX4_open_17 (show vwCl[4]? = some (RX4, TX4, 15) from rfl) zinX4 (by decide) zw357)
    (zr_n (zr_n (zr_s (zq_iconst (n := .ofNat 0) C dX4_open_20 (by decide))
    (zr_s (zk_callS C zXX_ok zTs_good hbc hbs (show zget zprog 16 = some mJ7_fill_53178 from rfl) rfl rfl zw300 zw787 zw299 zw12 (by decide +kernel) dX4_open_21)
    (zr_n (zr_n (zr_s (zq_aload_n C dX4_open_24 rfl)
    (zr_s (zq_get (k := 1) C dX4_open_25 (show vwCl[4]? = some (RX4, TX4, 15) from rfl) zinX4 (by decide) zw358)
    (zr_n (zr_n (zr_s (zq_iconst (n := .ofNat 0) C dX4_open_28 (by decide))
    (zr_s (zk_callS C zXX_ok zTs_good hbc hbs (show zget zprog 16 = some mJ7_fill_53178 from rfl) rfl rfl zw300 zw787 zw299 zw12 (by decide +kernel) dX4_open_29)
    (zr_n (zr_n zr_0))))))))))))))))
  (zrs_c (zr_s (zq_aload_n C dX4_open_32 rfl)
    (zr_s (zq_get (k := 3) C dX4_open_33 (show vwCl[4]? = some (RX4, TX4, 15) from rfl) zinX4 (by decide) zw360)
    (zr_n (zr_n (zr_s (zq_iconst (n := .ofNat 0) C dX4_open_36 (by decide))
    (zr_s (zk_callS C zXX_ok zTs_good hbc hbs (show zget zprog 16 = some mJ7_fill_53178 from rfl) rfl rfl zw300 zw787 zw299 zw12 (by decide +kernel) dX4_open_37)
    (zr_n (zr_n (zr_s (zq_aload_n C dX4_open_40 rfl)
    (zr_s (zq_get (k := 5) C dX4_open_41 (show vwCl[4]? = some (RX4, TX4, 15) from rfl) zinX4 (by decide) zw362)
    (zr_n (zr_n (zr_s (zq_lconst (n := .ofNat 0) C dX4_open_44 (by decide) (by decide))
    (zr_s (zk_callS C zXX_ok zTs_good hbc hbs (show zget zprog 17 = some mJ7_fill_d0a16 from rfl) rfl rfl zw790 zw788 zw789 zw12 (by decide +kernel) dX4_open_45)
    (zr_n (zr_n zr_0))))))))))))))))
  (zrs_c (zr_s (zq_aload_n C dX4_open_48 rfl)
    (zr_s (zq_get (k := 4) C dX4_open_49 (show vwCl[4]? = some (RX4, TX4, 15) from rfl) zinX4 (by decide) zw361)
    (zr_n (zr_n (zr_s (zq_lconst (n := .ofNat 0) C dX4_open_52 (by decide) (by decide))
    (zr_s (zk_callS C zXX_ok zTs_good hbc hbs (show zget zprog 17 = some mJ7_fill_d0a16 from rfl) rfl rfl zw790 zw788 zw789 zw12 (by decide +kernel) dX4_open_53)
    (zr_n (zr_n (zr_s (zq_iconst (n := .ofNat 0) C dX4_open_56 (by decide))
    (zr_s (zq_istore_n C dX4_open_57 rfl (by decide))
    (zr_s (zq_iload_n C dX4_open_58 rfl)
    (zr_s (zq_bipush (n := .ofNat 8) C dX4_open_59 (by decide) (by decide))
    (zr_n (zr_s (zq_icmp_ge C dX4_open_61 (by decide))
    (zr_n (zr_n zr_0))))))))))))))))
  (zrs_c (zr_s (zq_aload_n C dX4_open_64 rfl)
    (zr_s (zq_get (k := 2) C dX4_open_65 (show vwCl[4]? = some (RX4, TX4, 15) from rfl) zinX4 (by decide) zw359)
    (zr_n (zr_n (zr_s (zq_iload_n C dX4_open_68 rfl)
    (zr_s (zq_iload_n C dX4_open_69 rfl)
    (zr_s (zk_iast C dX4_open_70)
    (zr_s (zk_inc (n := .ofNat 1) C dX4_open_71 (by decide) (by decide))
    (zr_n (zr_n (zr_s (zk_goto C dX4_open_74 (by decide))
    (zr_n (zr_n (zr_s (zk_ret0 C hbc hbs rfl dX4_open_77)
    zr_0))))))))))))))
  zrs_0)))))
set_option maxRecDepth 100000 in
set_option maxHeartbeats 4000000 in
theorem okX4_orderByWidth {l : Launch} {D : va_G} {tys : List (ClassId × FieldType)} {o : zO} {z : Nat} (E : zEnv tys) : zCodeOk l D vwCl tys o z (zXX o z) zTs zprog mX4_orderByWidth := by
  intro p e R s m args below meth c0 Q ws0 hbc hbs C pc sem h
  replace hbc : R.cells = 0 := hbc
  replace hbs : R.slots = 0 := hbs
  replace C : zCx p R s m args meth c0 D vwCl tys z (zXX o z) zTs RX4 cX4_orderByWidth 6 "orderByWidth" := C
  refine zRows_get (P := fun pc sem => zOp p l e R s m args below meth c0 Q D vwCl tys o z (zXX o z) zTs zprog ws0 6 cX4_orderByWidth none pc sem) (c := kX4_orderByWidth) ?_ h
  unfold kX4_orderByWidth
  exact (zrs_c (zr_s (zq_iconst (n := .ofNat 1) C dX4_orderByWidth_0 (by decide))
    (zr_s (zq_istore_n C dX4_orderByWidth_1 rfl (by decide))
    (zr_s (zq_iload_n C dX4_orderByWidth_2 rfl)
    (zr_s (zq_iload_n C dX4_orderByWidth_3 rfl)
    (zr_s (zq_icmp_ge C dX4_orderByWidth_4 (by decide))
    (zr_n (zr_n (zr_n (zr_n (zr_n (zr_n (zr_n (zr_n (zr_n (zr_n (zr_n zr_0))))))))))))))))
  (zrs_c (zr_n (zr_n (zr_n (zr_n (zr_n (zr_n (zr_n (zr_n (zr_n (zr_n (zr_n (zr_n (zr_n (zr_n (zr_n (zr_n zr_0))))))))))))))))
  (zrs_c (zr_n (zr_n (zr_n (zr_n (zr_n (zr_n (zr_n (zr_n (zr_n (zr_n (zr_n (zr_n (zr_n (zr_n (zr_n (zr_n zr_0))))))))))))))))
  (zrs_c (zr_n (zr_n (zr_n (zr_n (zr_n (zr_n (zr_n (zr_n (zr_n (zr_n (zr_n (zr_n (zr_n (zr_n (zr_n (zr_n zr_0))))))))))))))))
  (zrs_c (zr_n (zr_n (zr_n (zr_n (zr_n (zr_n (zr_n (zr_n (zr_n (zr_n (zr_n (zr_n (zr_n (zr_n (zr_n (zr_n zr_0))))))))))))))))
  (zrs_c (zr_n (zr_n (zr_n (zr_n (zr_n (zr_n (zr_s (zq_iconst (n := .ofNat 1) C dX4_orderByWidth_86 (by decide))
    (zr_s (zq_istore_n C dX4_orderByWidth_87 rfl (by decide))
    (zr_s (zq_iload_n C dX4_orderByWidth_88 rfl)
    (zr_s (zq_iload_n C dX4_orderByWidth_89 rfl)
    (zr_s (zq_icmp_ge C dX4_orderByWidth_90 (by decide))
    (zr_n (zr_n (zr_n (zr_n (zr_n zr_0))))))))))))))))
  (zrs_c (zr_n (zr_n (zr_n (zr_n (zr_n (zr_n (zr_n (zr_n (zr_n (zr_n (zr_n (zr_n (zr_n (zr_n (zr_n (zr_n zr_0))))))))))))))))
  (zrs_c (zr_n (zr_n (zr_n (zr_n (zr_n (zr_n (zr_n (zr_n (zr_n (zr_n (zr_n (zr_n (zr_n (zr_n (zr_s (zk_ret0 C hbc hbs rfl dX4_orderByWidth_126)
    zr_0)))))))))))))))
  zrs_0))))))))
