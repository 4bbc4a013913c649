noncomputable def kJ0_charAt_5068e : zCode := [[some (zo_loadA 1 0), some (zo_call 4 6 1 0 0 0 0 zrecvS), none, none, some (zo_if zd_eq 16 7), none, none, some (zo_loadA 8 0), some (zo_getSv 11), none, none, some (zo_loadI 12 1), some (zo_call 15 9 2 0 0 0 0 zrecv0), none, none, some (zo_retN 0 0 0)],
  [some (zo_loadA 17 0), some (zo_getSv 20), none, none, some (zo_loadI 21 1), none, none, none, some (zo_retN 0 0 0)]]
noncomputable def mJ0_charAt_5068e : zM := (yJ0_charAt_5068e, cJ0_charAt_5068e, 2, (some .char), 0, 0, kJ0_charAt_5068e)
noncomputable def kJ0_checkBoundsBeginEnd_23922 : zCode := [[some (zo_loadI 1 0), some (zo_loadI 2 1), some (zo_loadI 3 2), some (zo_push 6 (.inr (.inr (.inr (.inr 100))))), none, none, some (zo_call 9 12 4 0 0 0 0 zrecv0), none, none, some (zo_pop 10), some (zo_ret0 0 0)]]
noncomputable def mJ0_checkBoundsBeginEnd_23922 : zM := (yJ0_checkBoundsBeginEnd_23922, cJ0_checkBoundsBeginEnd_23922, 3, none, 0, 0, kJ0_checkBoundsBeginEnd_23922)
noncomputable def kJ0_checkIndex_df160 : zCode := [[some (zo_loadI 1 0), some (zo_loadI 2 1), some (zo_push 5 (.inr (.inr (.inr (.inr 100))))), none, none, some (zo_call 8 13 3 0 0 0 0 zrecv0), none, none, some (zo_pop 9), some (zo_ret0 0 0)]]
noncomputable def mJ0_checkIndex_df160 : zM := (yJ0_checkIndex_df160, cJ0_checkIndex_df160, 2, none, 0, 0, kJ0_checkIndex_df160)
noncomputable def kJ0_coder_7d493 : zCode := [[some (zo_push 3 (.inl ((.ofNat 1, .ofNat 1), none))), none, none, some (zo_if zd_eq 13 6), none, none, some (zo_loadA 7 0), some (zo_getSc 10), none, none, some (zo_goto 14), none, none, some (zo_push 14 (.inl ((.ofNat 1, .ofNat 1), none))), some (zo_retN 0 0 1)]]
noncomputable def mJ0_coder_7d493 : zM := (yJ0_coder_7d493, cJ0_coder_7d493, 1, (some .byte), 0, 0, kJ0_coder_7d493)
noncomputable def kJ0_indexOf_0f7a4 : zCode := [[some (zo_loadA 1 0), some (zo_loadI 2 1), some (zo_push 3 (.inl ((.ofNat 0, .ofNat 0), none))), some (zo_call 6 5 3 0 0 0 0 zrecvS), none, none, some (zo_ret1 0 0 0)]]
noncomputable def mJ0_indexOf_0f7a4 : zM := (yJ0_indexOf_0f7a4, cJ0_indexOf_0f7a4, 2, (some .int), 0, 0, kJ0_indexOf_0f7a4)
noncomputable def kJ0_indexOf_7cf53 : zCode := [[some (zo_loadA 1 0), some (zo_call 4 6 1 0 0 0 0 zrecvS), none, none, some (zo_if zd_eq 23 7), none, none, some (zo_loadA 8 0), some (zo_getSv 11), none, none, some (zo_loadI 12 1), some (zo_loadI 13 2), some (zo_loadA 14 0), some (zo_call 17 7 1 0 0 0 0 zrecvS), none],
  [none, some (zo_call 20 11 4 0 0 0 0 zrecv0), none, none, some (zo_goto 36), none, none, some (zo_loadA 24 0), some (zo_getSv 27), none, none, some (zo_loadI 28 1), some (zo_loadI 29 2), some (zo_loadA 30 0), some (zo_call 33 7 1 0 0 0 0 zrecvS), none],
  [none, none, none, none, some (zo_ret1 0 0 0)]]
noncomputable def mJ0_indexOf_7cf53 : zM := (yJ0_indexOf_7cf53, cJ0_indexOf_7cf53, 3, (some .int), 0, 0, kJ0_indexOf_7cf53)
noncomputable def kJ0_isLatin1_aae02 : zCode := [[some (zo_push 3 (.inl ((.ofNat 1, .ofNat 1), none))), none, none, some (zo_if zd_eq 17 6), none, none, some (zo_loadA 7 0), some (zo_getSc 10), none, none, some (zo_if zd_ne 17 13), none, none, some (zo_push 14 (.inl ((.ofNat 1, .ofNat 1), none))), some (zo_goto 18), none],
  [none, some (zo_push 18 (.inl ((.ofNat 0, .ofNat 0), none))), some (zo_ret1 0 0 2)]]
noncomputable def mJ0_isLatin1_aae02 : zM := (yJ0_isLatin1_aae02, cJ0_isLatin1_aae02, 1, (some .boolean), 0, 0, kJ0_isLatin1_aae02)
noncomputable def kJ0_length_8abf5 : zCode := [[some (zo_loadA 1 0), some (zo_getSv 4), none, none, some (zo_lenS 5 zLen), some (zo_loadA 6 0), some (zo_call 9 3 1 0 0 0 0 zrecvS), none, none, some (zo_i2 10 zi_shr), some (zo_ret1 0 0 0)]]
noncomputable def mJ0_length_8abf5 : zM := (yJ0_length_8abf5, cJ0_length_8abf5, 1, (some .int), 0, 0, kJ0_length_8abf5)
noncomputable def kJ1_canEncode_9a6ad : zCode := [[some (zo_loadI 1 0), some (zo_if zd_lt 15 4), none, none, some (zo_loadI 5 0), some (zo_push 8 (.inl ((.ofNat 255, .ofNat 255), none))), none, none, some (zo_ic zc_gt 15 11), none, none, some (zo_push 12 (.inl ((.ofNat 1, .ofNat 1), none))), some (zo_goto 16), none, none, some (zo_push 16 (.inl ((.ofNat 0, .ofNat 0), none)))],
  [some (zo_ret1 0 0 2)]]
noncomputable def mJ1_canEncode_9a6ad : zM := (yJ1_canEncode_9a6ad, cJ1_canEncode_9a6ad, 1, (some .boolean), 0, 0, kJ1_canEncode_9a6ad)
noncomputable def kJ1_charAt_3b067 : zCode := [[some (zo_loadI 1 1), some (zo_loadA 2 0), some (zo_lenS 3 zLen), some (zo_call 6 2 2 0 0 0 0 zrecv0), none, none, some (zo_loadA 7 0), some (zo_loadI 8 1), some (zo_baldS 9 zByt), some (zo_push 12 (.inl ((.ofNat 255, .ofNat 255), none))), none, none, some (zo_i2 13 zi_and), some (zo_i1 14 zi_c), some (zo_retN 0 0 0)]]
noncomputable def mJ1_charAt_3b067 : zM := (yJ1_charAt_3b067, cJ1_charAt_3b067, 2, (some .char), 0, 0, kJ1_charAt_3b067)
noncomputable def kJ1_indexOfChar_4cfef : zCode := [[some (zo_loadI 1 1), some (zo_i1 2 zi_b), some (zo_stI 4 4), none, some (zo_loadI 5 2), some (zo_stI 7 5), none, some (zo_loadI 9 5), none, some (zo_loadI 10 3), some (zo_ic zc_ge 31 13), none, none, some (zo_loadA 14 0), some (zo_loadI 16 5), none],
  [some (zo_baldS 17 zByt), some (zo_loadI 19 4), none, some (zo_ic zc_ne 25 22), none, none, some (zo_loadI 24 5), none, some (zo_ret1 0 0 0), some (zo_inc 28 5 (.ofNat 1)), none, none, some (zo_goto 7), none, none, some (zo_push 32 (.inl ((.negSucc 0, .negSucc 0), none)))],
  [some (zo_ret1 0 0 0)]]
noncomputable def mJ1_indexOfChar_4cfef : zM := (yJ1_indexOfChar_4cfef, cJ1_indexOfChar_4cfef, 6, (some .int), 0, 0, kJ1_indexOfChar_4cfef)
noncomputable def kJ1_indexOf_4cfef : zCode := [[some (zo_loadI 1 1), some (zo_call 4 8 1 0 0 0 0 zrecv0), none, none, some (zo_if zd_ne 9 7), none, none, some (zo_push 8 (.inl ((.negSucc 0, .negSucc 0), none))), some (zo_ret1 0 0 0), some (zo_loadI 10 2), some (zo_push 11 (.inl ((.ofNat 0, .ofNat 0), none))), some (zo_m2 14 0 0 zi_max), none, none, some (zo_stI 15 2), some (zo_loadI 16 3)],
  [some (zo_loadA 17 0), some (zo_lenS 18 zLen), some (zo_m2 21 0 0 zi_min), none, none, some (zo_stI 22 3), some (zo_loadI 23 2), some (zo_loadI 24 3), some (zo_ic zc_lt 29 27), none, none, some (zo_push 28 (.inl ((.negSucc 0, .negSucc 0), none))), some (zo_ret1 0 0 0), some (zo_loadA 30 0), some (zo_loadI 31 1), some (zo_loadI 32 2)],
  [some (zo_loadI 33 3), some (zo_call 36 10 4 0 0 0 0 zrecv0), none, none, some (zo_ret1 0 0 0)]]
noncomputable def mJ1_indexOf_4cfef : zM := (yJ1_indexOf_4cfef, cJ1_indexOf_4cfef, 4, (some .int), 0, 0, kJ1_indexOf_4cfef)
noncomputable def kJ3_checkFromToIndex_8c36e : zCode := [[some (zo_loadI 1 0), some (zo_if zd_lt 14 4), none, none, some (zo_loadI 5 0), some (zo_loadI 6 1), some (zo_ic zc_gt 14 9), none, none, some (zo_loadI 10 1), some (zo_loadI 11 2), some (zo_ic zc_le 22 14), none, none, some (zo_loadA 15 3), some (zo_loadI 16 0)],
  [some (zo_loadI 17 1), some (zo_loadI 18 2), none, none, none, none, some (zo_loadI 23 0), some (zo_ret1 0 0 0)]]
noncomputable def mJ3_checkFromToIndex_8c36e : zM := (yJ3_checkFromToIndex_8c36e, cJ3_checkFromToIndex_8c36e, 4, (some .int), 0, 0, kJ3_checkFromToIndex_8c36e)
noncomputable def kJ3_checkIndex_8e157 : zCode := [[some (zo_loadI 1 0), some (zo_if zd_lt 9 4), none, none, some (zo_loadI 5 0), some (zo_loadI 6 1), some (zo_ic zc_lt 16 9), none, none, some (zo_loadA 10 2), some (zo_loadI 11 0), some (zo_loadI 12 1), none, none, none, none],
  [some (zo_loadI 17 0), some (zo_ret1 0 0 0)]]
noncomputable def mJ3_checkIndex_8e157 : zM := (yJ3_checkIndex_8e157, cJ3_checkIndex_8e157, 3, (some .int), 0, 0, kJ3_checkIndex_8e157)
noncomputable def kJ6_bitCount_0f7a4 : zCode := [[some (zo_loadI 1 0), some (zo_loadI 2 0), some (zo_push 3 (.inl ((.ofNat 1, .ofNat 1), none))), some (zo_i2 4 zi_ushr), some (zo_push 7 (.inl ((.ofNat 1431655765, .ofNat 1431655765), none))), none, none, some (zo_i2 8 zi_and), some (zo_sub 9), some (zo_stI 10 0), some (zo_loadI 11 0), some (zo_push 14 (.inl ((.ofNat 858993459, .ofNat 858993459), none))), none, none, some (zo_i2 15 zi_and), some (zo_loadI 16 0)],
  [some (zo_push 17 (.inl ((.ofNat 2, .ofNat 2), none))), some (zo_i2 18 zi_ushr), some (zo_push 21 (.inl ((.ofNat 858993459, .ofNat 858993459), none))), none, none, some (zo_i2 22 zi_and), some (zo_add 23), some (zo_stI 24 0), some (zo_loadI 25 0), some (zo_loadI 26 0), some (zo_push 27 (.inl ((.ofNat 4, .ofNat 4), none))), some (zo_i2 28 zi_ushr), some (zo_add 29), some (zo_push 32 (.inl ((.ofNat 252645135, .ofNat 252645135), none))), none, none],
  [some (zo_i2 33 zi_and), some (zo_stI 34 0), some (zo_loadI 35 0), some (zo_loadI 36 0), some (zo_push 38 (.inl ((.ofNat 8, .ofNat 8), none))), none, some (zo_i2 39 zi_ushr), some (zo_add 40), some (zo_stI 41 0), some (zo_loadI 42 0), some (zo_loadI 43 0), some (zo_push 45 (.inl ((.ofNat 16, .ofNat 16), none))), none, some (zo_i2 46 zi_ushr), some (zo_add 47), some (zo_stI 48 0)],
  [some (zo_loadI 49 0), some (zo_push 51 (.inl ((.ofNat 63, .ofNat 63), none))), none, some (zo_i2 52 zi_and), some (zo_ret1 0 0 0)]]
noncomputable def mJ6_bitCount_0f7a4 : zM := (yJ6_bitCount_0f7a4, cJ6_bitCount_0f7a4, 1, (some .int), 0, 0, kJ6_bitCount_0f7a4)
noncomputable def kJ6_numberOfTrailingZeros_0f7a4 : zCode := [[some (zo_loadI 1 0), some (zo_push 2 (.inl ((.negSucc 0, .negSucc 0), none))), some (zo_i2 3 zi_xor), some (zo_loadI 4 0), some (zo_push 5 (.inl ((.ofNat 1, .ofNat 1), none))), some (zo_sub 6), some (zo_i2 7 zi_and), some (zo_stI 8 0), some (zo_loadI 9 0), some (zo_if zd_gt 17 12), none, none, some (zo_loadI 13 0), some (zo_push 15 (.inl ((.ofNat 32, .ofNat 32), none))), none, some (zo_i2 16 zi_and)],
  [some (zo_ret1 0 0 0), some (zo_push 18 (.inl ((.ofNat 1, .ofNat 1), none))), some (zo_stI 19 1), some (zo_loadI 20 0), some (zo_push 23 (.inl ((.ofNat 65536, .ofNat 65536), none))), none, none, some (zo_ic zc_le 34 26), none, none, some (zo_inc 29 1 (.ofNat 16)), none, none, some (zo_loadI 30 0), some (zo_push 32 (.inl ((.ofNat 16, .ofNat 16), none))), none],
  [some (zo_i2 33 zi_ushr), some (zo_stI 34 0), some (zo_loadI 35 0), some (zo_push 38 (.inl ((.ofNat 256, .ofNat 256), none))), none, none, some (zo_ic zc_le 49 41), none, none, some (zo_inc 44 1 (.ofNat 8)), none, none, some (zo_loadI 45 0), some (zo_push 47 (.inl ((.ofNat 8, .ofNat 8), none))), none, some (zo_i2 48 zi_ushr)],
  [some (zo_stI 49 0), some (zo_loadI 50 0), some (zo_push 52 (.inl ((.ofNat 16, .ofNat 16), none))), none, some (zo_ic zc_le 62 55), none, none, some (zo_inc 58 1 (.ofNat 4)), none, none, some (zo_loadI 59 0), some (zo_push 60 (.inl ((.ofNat 4, .ofNat 4), none))), some (zo_i2 61 zi_ushr), some (zo_stI 62 0), some (zo_loadI 63 0), some (zo_push 64 (.inl ((.ofNat 4, .ofNat 4), none)))],
  [some (zo_ic zc_le 74 67), none, none, some (zo_inc 70 1 (.ofNat 2)), none, none, some (zo_loadI 71 0), some (zo_push 72 (.inl ((.ofNat 2, .ofNat 2), none))), some (zo_i2 73 zi_ushr), some (zo_stI 74 0), some (zo_loadI 75 1), some (zo_loadI 76 0), some (zo_push 77 (.inl ((.ofNat 1, .ofNat 1), none))), some (zo_i2 78 zi_ushr), some (zo_add 79), some (zo_ret1 0 0 0)]]
noncomputable def mJ6_numberOfTrailingZeros_0f7a4 : zM := (yJ6_numberOfTrailingZeros_0f7a4, cJ6_numberOfTrailingZeros_0f7a4, 2, (some .int), 0, 0, kJ6_numberOfTrailingZeros_0f7a4)
noncomputable def kJ7_fill_53178 : zCode := [[some (zo_push 1 (.inl ((.ofNat 0, .ofNat 0), none))), some (zo_stI 2 2), some (zo_loadA 3 0), some (zo_len 4), some (zo_stI 5 3), some (zo_loadI 6 2), some (zo_loadI 7 3), some (zo_ic zc_ge 20 10), none, none, some (zo_loadA 11 0), some (zo_loadI 12 2), some (zo_loadI 13 1), some (zo_ast 14 0), some (zo_inc 17 2 (.ofNat 1)), none],
  [none, some (zo_goto 5), none, none, some (zo_ret0 0 0)]]
noncomputable def mJ7_fill_53178 : zM := (yJ7_fill_53178, cJ7_fill_53178, 4, none, 0, 0, kJ7_fill_53178)
noncomputable def kJ7_fill_d0a16 : zCode := [[some (zo_push 1 (.inl ((.ofNat 0, .ofNat 0), none))), some (zo_stI 2 3), some (zo_loadA 3 0), some (zo_len 4), some (zo_stI 6 4), none, some (zo_loadI 7 3), some (zo_loadI 9 4), none, some (zo_ic zc_ge 22 12), none, none, some (zo_loadA 13 0), some (zo_loadI 14 3), some (zo_loadL 15 1), some (zo_ast 16 1)],
  [some (zo_inc 19 3 (.ofNat 1)), none, none, some (zo_goto 6), none, none, some (zo_ret0 0 0)]]
noncomputable def mJ7_fill_d0a16 : zM := (yJ7_fill_d0a16, cJ7_fill_d0a16, 5, none, 0, 0, kJ7_fill_d0a16)
noncomputable def kX0_areTwo : zCode := [[some (zo_loadA 1 0), some (zo_loadI 2 1), some (zo_call 5 19 2 0 0 0 0 (zrecv 0)), none, none, some (zo_if zd_eq 25 8), none, none, none, none, none, none, none, none, none, none],
  [none, none, none, none, none, none, none, none, none, some (zo_push 26 (.inl ((.ofNat 0, .ofNat 0), none))), some (zo_ret1 0 0 2)]]
noncomputable def mX0_areTwo : zM := (yX0_areTwo, cX0_areTwo, 3, (some .boolean), 0, 0, kX0_areTwo)
noncomputable def kX0_has : zCode := [[some (zo_loadI 1 1), some (zo_if zd_lt 16 4), none, none, some (zo_loadI 5 1), some (zo_loadA 6 0), some (zo_get 9 0 6), none, none, some (zo_ic zc_ge 16 12), none, none, none, none, none, none],
  [some (zo_push 17 (.inl ((.ofNat 0, .ofNat 0), none))), some (zo_ret1 0 0 2)]]
noncomputable def mX0_has : zM := (yX0_has, cX0_has, 2, (some .boolean), 0, 0, kX0_has)
noncomputable def kX0_init : zCode := [[some (zo_loadA 1 0), some (zo_objInit 4), none, none, some (zo_loadA 5 0), some (zo_push 7 (.inl ((.ofNat 8, .ofNat 8), none))), none, some (zo_newa 9 0 11 181 (.inl ((.ofNat 0, .ofNat 0), none))), none, some (zo_put 12 0 0 3), none, none, some (zo_loadA 13 0), some (zo_push 15 (.inl ((.ofNat 8, .ofNat 8), none))), none, some (zo_newa 17 0 11 181 (.inl ((.ofNat 0, .ofNat 0), none)))],
  [none, some (zo_put 20 0 1 3), none, none, some (zo_loadA 21 0), some (zo_push 23 (.inl ((.ofNat 8, .ofNat 8), none))), none, some (zo_newa 25 0 11 181 (.inl ((.ofNat 0, .ofNat 0), none))), none, some (zo_put 28 0 2 3), none, none, some (zo_loadA 29 0), some (zo_push 31 (.inl ((.ofNat 7, .ofNat 7), none))), none, some (zo_newa 33 0 11 181 (.inl ((.ofNat 0, .ofNat 0), none)))],
  [none, some (zo_put 36 0 3 3), none, none, some (zo_loadA 37 0), some (zo_push 39 (.inl ((.ofNat 8, .ofNat 8), none))), none, some (zo_newa 41 0 11 181 (.inl ((.ofNat 0, .ofNat 0), none))), none, some (zo_put 44 0 4 3), none, none, some (zo_loadA 45 0), some (zo_push 47 (.inl ((.ofNat 8, .ofNat 8), none))), none, some (zo_newa 49 0 11 181 (.inl ((.ofNat 0, .ofNat 0), none)))],
  [none, some (zo_put 52 0 5 3), none, none, some (zo_loadA 53 0), some (zo_push 55 (.inl ((.ofNat 8, .ofNat 8), none))), none, some (zo_put 58 0 7 0), none, none, some (zo_loadA 59 0), some (zo_push 60 (.inl ((.ofNat 4, .ofNat 4), none))), some (zo_put 63 0 8 0), none, none, some (zo_loadA 64 0)],
  [some (zo_new 67 3 9 11 181 zfsX3), none, none, some (zo_dup 68), some (zo_call 71 40 1 4 125 11 181 zrecvI), none, none, some (zo_put 74 0 9 3), none, none, some (zo_ret0 11 181)]]
noncomputable def mX0_init : zM := (yX0_init, cX0_init, 1, none, 11, 181, kX0_init)
noncomputable def kX0_isAble : zCode := [[some (zo_loadA 1 0), some (zo_loadI 2 2), some (zo_call 5 19 2 0 0 0 0 (zrecv 0)), none, none, some (zo_if zd_eq 34 8), none, none, none, none, none, none, none, none, none, none],
  [none, none, none, none, none, none, none, none, none, none, none, none, none, none, none, none],
  [none, none, some (zo_push 35 (.inl ((.ofNat 0, .ofNat 0), none))), some (zo_ret1 0 0 2)]]
noncomputable def mX0_isAble : zM := (yX0_isAble, cX0_isAble, 4, (some .boolean), 0, 0, kX0_isAble)
noncomputable def kX0_isSomebodyOrNobody : zCode := [[some (zo_loadI 1 1), some (zo_push 2 (.inl ((.negSucc 0, .negSucc 0), none))), some (zo_ic zeqn 13 5), none, none, some (zo_loadA 6 0), some (zo_loadI 7 1), some (zo_call 10 19 2 0 0 0 0 (zrecv 0)), none, none, some (zo_if zd_eq 17 13), none, none, some (zo_push 14 (.inl ((.ofNat 1, .ofNat 1), none))), some (zo_goto 18), none],
  [none, some (zo_push 18 (.inl ((.ofNat 0, .ofNat 0), none))), some (zo_ret1 0 0 2)]]
noncomputable def mX0_isSomebodyOrNobody : zM := (yX0_isSomebodyOrNobody, cX0_isSomebodyOrNobody, 2, (some .boolean), 0, 0, kX0_isSomebodyOrNobody)
noncomputable def kX0_pass : zCode := [[some (zo_loadA 1 0), some (zo_loadA 2 1), some (zo_call 5 26 2 0 0 0 0 (zrecv 0)), none, none, some (zo_loadA 6 0), some (zo_get 9 0 5), none, none, some (zo_push 10 (.inl ((.ofNat 0, .ofNat 0), none))), some (zo_call 13 16 2 0 0 0 0 zrecv0), none, none, some (zo_push 14 (.inl ((.ofNat 0, .ofNat 0), none))), some (zo_stI 15 2), some (zo_loadI 16 2)],
  [some (zo_loadA 17 0), some (zo_get 20 0 7), none, none, some (zo_ic zc_ge 76 23), none, none, some (zo_loadA 24 1), some (zo_get 27 5 0), none, none, some (zo_loadI 28 2), some (zo_ald 29 0), some (zo_stI 30 3), some (zo_loadA 31 0), some (zo_get 34 0 11)],
  [none, none, some (zo_loadI 35 2), some (zo_i2 36 zi_shr), some (zo_push 37 (.inl ((.ofNat 1, .ofNat 1), none))), some (zo_i2 38 zi_and), some (zo_push 39 (.inl ((.ofNat 1, .ofNat 1), none))), some (zo_ic zc_ne 70 42), none, none, none, none, none, none, none, none],
  [none, none, none, none, none, none, none, none, none, none, none, none, none, none, none, none],
  [none, none, none, none, none, none, some (zo_inc 73 2 (.ofNat 1)), none, none, some (zo_goto 15), none, none, some (zo_push 77 (.inl ((.ofNat 0, .ofNat 0), none))), some (zo_stI 78 2), some (zo_loadI 79 2), some (zo_loadA 80 0)],
  [some (zo_get 83 0 6), none, none, some (zo_ic zc_ge 139 86), none, none, none, none, none, none, none, none, none, none, none, none],
  [none, none, none, none, none, none, none, none, none, none, none, none, none, none, none, none],
  [none, none, none, none, none, none, none, none, none, none, none, none, none, none, none, none],
  [none, none, none, none, none, none, none, none, none, none, none, some (zo_loadA 140 1), some (zo_dup 141), some (zo_get 144 5 4), none, none],
  [some (zo_loadA 145 0), some (zo_get 148 0 10), none, none, some (zo_call 151 14 1 0 0 0 0 zrecv0), none, none, some (zo_add 152), some (zo_put 155 5 4 0), none, none, some (zo_loadA 156 1), some (zo_dup 157), some (zo_get 160 5 5), none, none],
  [some (zo_loadA 161 0), some (zo_get 164 0 11), none, none, some (zo_call 167 14 1 0 0 0 0 zrecv0), none, none, some (zo_add 168), some (zo_put 171 5 5 0), none, none, some (zo_loadA 172 1), some (zo_dup 173), some (zo_get 176 5 3), none, none],
  [some (zo_push 177 (.inl ((.ofNat 1, .ofNat 1), none))), some (zo_add 178), some (zo_put 181 5 3 0), none, none, some (zo_ret0 0 0)]]
noncomputable def mX0_pass : zM := (yX0_pass, cX0_pass, 4, none, 0, 0, kX0_pass)
noncomputable def kX0_passAll : zCode := [[some (zo_push 1 (.inl ((.ofNat 0, .ofNat 0), none))), some (zo_stI 2 3), some (zo_loadI 3 3), some (zo_loadI 4 2), some (zo_ic zc_ge 18 7), none, none, some (zo_loadA 8 0), some (zo_loadA 9 1), some (zo_call 12 23 2 0 0 0 0 (zrecv 0)), none, none, some (zo_inc 15 3 (.ofNat 1)), none, none, some (zo_goto 2)],
  [none, none, some (zo_ret0 0 0)]]
noncomputable def mX0_passAll : zM := (yX0_passAll, cX0_passAll, 4, none, 0, 0, kX0_passAll)
noncomputable def kX0_readRiders : zCode := [[some (zo_loadA 1 1), some (zo_get 4 6 1), none, none, some (zo_if zd_ne 9 7), none, none, some (zo_push 8 (.inl ((.ofNat 0, .ofNat 0), none))), some (zo_ret1 0 0 0), none, none, none, none, none, none, none],
  [none, none, none, none, none, none, none, none, none, none, none, none, none, none, none, none],
  [none, none, none, none, none, none, none, none, none, none, none, none, none, none, none, none],
  [none, none, none, none, none, none, none, none, none, none, none, none, none, none, none, none],
  [none, none, none, none, none, none, none, none, none, none, none, none, none, none, none, none],
  [none, none, none, none, none, none, none, none, none, none, none, none, none, none, none, none],
  [none, none, none, none, none, none, none, none, none, none, none, none, none, none, none, none],
  [none, none, none, none, none, none, none, none]]
noncomputable def mX0_readRiders : zM := (yX0_readRiders, cX0_readRiders, 7, (some .int), 0, 0, kX0_readRiders)
noncomputable def kX0_watch : zCode := [[some (zo_loadA 1 0), some (zo_push 2 (.inl ((.ofNat 0, .ofNat 0), none))), some (zo_put 5 0 10 0), none, none, some (zo_loadA 6 0), some (zo_push 7 (.inl ((.ofNat 0, .ofNat 0), none))), some (zo_put 10 0 11 0), none, none, some (zo_loadA 11 0), some (zo_get 14 0 4), none, none, some (zo_push 15 (.inl ((.ofNat 0, .ofNat 0), none))), some (zo_call 18 16 2 0 0 0 0 zrecv0)],
  [none, none, some (zo_push 19 (.inl ((.negSucc 0, .negSucc 0), none))), some (zo_stI 20 2), some (zo_push 21 (.inl ((.ofNat 0, .ofNat 0), none))), some (zo_stI 22 3), some (zo_loadI 23 3), some (zo_loadA 24 0), some (zo_get 27 0 7), none, none, some (zo_ic zc_ge 151 30), none, none, some (zo_loadA 31 1), some (zo_get 34 5 0)],
  [none, none, some (zo_loadI 35 3), some (zo_ald 36 0), some (zo_stI 38 4), none, some (zo_loadA 39 0), some (zo_loadA 40 1), some (zo_loadI 42 4), none, some (zo_loadI 43 3), some (zo_call 46 21 4 0 0 0 0 (zrecv 0)), none, none, some (zo_if zd_eq 66 49), none],
  [none, none, none, none, none, none, none, none, none, none, none, none, none, none, none, none],
  [none, none, some (zo_loadA 67 0), some (zo_dup 68), some (zo_get 71 0 10), none, none, some (zo_push 72 (.inl ((.ofNat 1, .ofNat 1), none))), some (zo_loadI 73 3), some (zo_i2 74 zi_shl), some (zo_i2 75 zi_or), some (zo_put 78 0 10 0), none, none, some (zo_push 79 (.inl ((.negSucc 0, .negSucc 0), none))), some (zo_stI 80 2)],
  [some (zo_goto 145), none, none, none, none, none, none, none, none, none, none, none, none, none, none, none],
  [none, none, none, none, none, none, none, none, none, none, none, none, none, none, none, none],
  [none, none, none, none, none, none, none, none, none, none, none, none, none, none, none, none],
  [none, none, none, none, none, none, none, none, none, none, none, none, none, none, none, none],
  [none, some (zo_inc 148 3 (.ofNat 1)), none, none, some (zo_goto 22), none, none, some (zo_ret0 0 0)]]
noncomputable def mX0_watch : zM := (yX0_watch, cX0_watch, 5, none, 0, 0, kX0_watch)
noncomputable def kX1_add : zCode := [[some (zo_loadA 1 0), some (zo_get 4 1 1), none, none, some (zo_loadA 5 0), some (zo_get 8 1 0), none, none, some (zo_len 9), some (zo_ic zc_ge 32 12), none, none, some (zo_loadA 13 0), some (zo_get 16 1 0), none, none],
  [some (zo_loadA 17 0), some (zo_get 20 1 1), none, none, some (zo_loadL 21 1), some (zo_ast 22 1), some (zo_loadA 23 0), some (zo_dup 24), some (zo_get 27 1 1), none, none, some (zo_push 28 (.inl ((.ofNat 1, .ofNat 1), none))), some (zo_add 29), some (zo_put 32 1 1 0), none, none],
  [some (zo_ret0 0 0)]]
noncomputable def mX1_add : zM := (yX1_add, cX1_add, 3, none, 0, 0, kX1_add)
noncomputable def kX1_clear : zCode := [[some (zo_loadA 1 0), some (zo_push 2 (.inl ((.ofNat 0, .ofNat 0), none))), some (zo_put 5 1 1 0), none, none, some (zo_ret0 0 0)]]
noncomputable def mX1_clear : zM := (yX1_clear, cX1_clear, 1, none, 0, 0, kX1_clear)
noncomputable def kX1_init : zCode := [[some (zo_loadA 1 0), some (zo_objInit 4), none, none, some (zo_loadA 5 0), some (zo_push 7 (.inl ((.ofNat 8, .ofNat 8), none))), none, some (zo_newa 9 1 1 8 (.inr (.inl (.ofNat 0, .ofNat 0)))), none, some (zo_put 12 1 0 3), none, none, some (zo_ret0 1 8)]]
noncomputable def mX1_init : zM := (yX1_init, cX1_init, 1, none, 1, 8, kX1_init)
noncomputable def kX1_tell : zCode := [[some (zo_loadA 1 0), some (zo_call 4 28 1 0 0 0 0 (zrecv 1)), none, none, some (zo_loadA 5 0), some (zo_loadL 6 1), some (zo_call 9 27 2 0 0 0 0 (zrecv 1)), none, none, some (zo_ret0 0 0)]]
noncomputable def mX1_tell : zM := (yX1_tell, cX1_tell, 3, none, 0, 0, kX1_tell)
noncomputable def kX1_tell_ : zCode := [[some (zo_loadA 1 0), some (zo_call 4 28 1 0 0 0 0 (zrecv 1)), none, none, some (zo_loadA 5 0), some (zo_loadL 6 1), some (zo_call 9 27 2 0 0 0 0 (zrecv 1)), none, none, some (zo_loadA 10 0), some (zo_loadL 11 3), some (zo_call 14 27 2 0 0 0 0 (zrecv 1)), none, none, some (zo_ret0 0 0)]]
noncomputable def mX1_tell_ : zM := (yX1_tell_, cX1_tell_, 5, none, 0, 0, kX1_tell_)
noncomputable def kX2_init : zCode := [[some (zo_loadA 1 0), some (zo_objInit 4), none, none, some (zo_loadA 5 0), some (zo_push 7 (.inl ((.ofNat 12, .ofNat 12), none))), none, some (zo_newa 10 9 37 276 (.inr (.inr (.inr (.inl false))))), none, none, some (zo_put 13 2 0 3), none, none, some (zo_push 14 (.inl ((.ofNat 0, .ofNat 0), none))), some (zo_stI 15 1), some (zo_loadI 16 1)],
  [some (zo_push 18 (.inl ((.ofNat 12, .ofNat 12), none))), none, some (zo_ic zc_ge 40 21), none, none, some (zo_loadA 22 0), some (zo_get 25 2 0), none, none, some (zo_loadI 26 1), some (zo_new 29 5 6 37 276 zfsX5), none, none, some (zo_dup 30), some (zo_call 33 63 1 2 16 37 276 zrecvI), none],
  [none, some (zo_aast 34), some (zo_inc 37 1 (.ofNat 1)), none, none, some (zo_goto 15), none, none, some (zo_ret0 37 276)]]
noncomputable def mX2_init : zM := (yX2_init, cX2_init, 2, none, 37, 276, kX2_init)
noncomputable def kX2_pop : zCode := [[some (zo_loadA 1 0), some (zo_get 4 2 2), none, none, some (zo_if zd_ne 9 7), none, none, some (zo_push 8 (.inl ((.negSucc 0, .negSucc 0), none))), some (zo_ret1 0 0 0), none, none, none, none, none, none, none],
  [none, none, none, none, none, none, none, none, none, none, none, none, none, none, none, none],
  [none, none, none, none, none, none, none, none, none, none, none, none, none, none, none, none],
  [none, none, none, none, none]]
noncomputable def mX2_pop : zM := (yX2_pop, cX2_pop, 2, (some .int), 0, 0, kX2_pop)
noncomputable def kX2_push : zCode := [[some (zo_loadA 1 0), some (zo_get 4 2 0), none, none, some (zo_loadA 5 0), some (zo_get 8 2 1), none, none, some (zo_aald 9), some (zo_loadA 10 1), some (zo_call 13 62 2 0 0 0 0 (zrecv 5)), none, none, some (zo_loadA 14 0), some (zo_loadA 15 0), some (zo_get 18 2 1)],
  [none, none, some (zo_push 19 (.inl ((.ofNat 1, .ofNat 1), none))), some (zo_add 20), some (zo_push 22 (.inl ((.ofNat 12, .ofNat 12), none))), none, some (zo_i2d 23 zi_rem), some (zo_put 26 2 1 0), none, none, some (zo_loadA 27 0), some (zo_loadA 28 0), some (zo_get 31 2 2), none, none, some (zo_push 32 (.inl ((.ofNat 1, .ofNat 1), none)))],
  [some (zo_add 33), some (zo_push 35 (.inl ((.ofNat 12, .ofNat 12), none))), none, some (zo_m2 38 0 0 zi_min), none, none, some (zo_put 41 2 2 0), none, none, some (zo_ret0 0 0)]]
noncomputable def mX2_push : zM := (yX2_push, cX2_push, 2, none, 0, 0, kX2_push)
noncomputable def kX3_await : zCode := [[some (zo_loadA 1 0), some (zo_get 4 3 5), none, none, some (zo_loadA 5 0), some (zo_get 8 3 1), none, none, some (zo_len 9), some (zo_ic zc_ge 32 12), none, none, some (zo_loadA 13 0), some (zo_get 16 3 1), none, none],
  [some (zo_loadA 17 0), some (zo_get 20 3 5), none, none, some (zo_loadI 21 1), some (zo_ast 22 0), some (zo_loadA 23 0), some (zo_dup 24), some (zo_get 27 3 5), none, none, some (zo_push 28 (.inl ((.ofNat 1, .ofNat 1), none))), some (zo_add 29), some (zo_put 32 3 5 0), none, none],
  [some (zo_ret0 0 0)]]
noncomputable def mX3_await : zM := (yX3_await, cX3_await, 2, none, 0, 0, kX3_await)
noncomputable def kX3_begin : zCode := [[some (zo_loadA 1 0), some (zo_push 2 (.inl ((.ofNat 0, .ofNat 0), none))), some (zo_put 5 3 4 0), none, none, some (zo_loadA 6 0), some (zo_push 7 (.inl ((.ofNat 0, .ofNat 0), none))), some (zo_put 10 3 5 0), none, none, some (zo_loadA 11 0), some (zo_push 12 (.inl ((.ofNat 0, .ofNat 0), none))), some (zo_put 15 3 6 0), none, none, some (zo_loadA 16 0)],
  [some (zo_push 17 (.inl ((.ofNat 0, .ofNat 0), none))), some (zo_put 20 3 7 0), none, none, some (zo_loadA 21 0), some (zo_push 22 (.inl ((.ofNat 1, .ofNat 1), none))), some (zo_put 25 3 8 2), none, none, some (zo_loadA 26 0), some (zo_get 29 3 3), none, none, some (zo_push 30 (.inl ((.ofNat 0, .ofNat 0), none))), some (zo_push 31 (.inl ((.ofNat 0, .ofNat 0), none))), some (zo_bast 32)],
  [some (zo_ret0 0 0)]]
noncomputable def mX3_begin : zM := (yX3_begin, cX3_begin, 1, none, 0, 0, kX3_begin)
noncomputable def kX3_binding : zCode := [[some (zo_loadI 1 0), some (zo_lsw [(.ofNat 42, 80), (.ofNat 43, 78), (.ofNat 45, 78), (.ofNat 47, 80), (.ofNat 60, 76), (.ofNat 61, 76), (.ofNat 62, 76), (.ofNat 256, 82)] 84), none, none, none, none, none, none, none, none, none, none, none, none, none, none],
  [none, none, none, none, none, none, none, none, none, none, none, none, none, none, none, none],
  [none, none, none, none, none, none, none, none, none, none, none, none, none, none, none, none],
  [none, none, none, none, none, none, none, none, none, none, none, none, none, none, none, none],
  [none, none, none, none, none, none, none, none, none, none, none, none, some (zo_push 77 (.inl ((.ofNat 1, .ofNat 1), none))), some (zo_ret1 0 0 0), some (zo_push 79 (.inl ((.ofNat 2, .ofNat 2), none))), some (zo_ret1 0 0 0)],
  [some (zo_push 81 (.inl ((.ofNat 3, .ofNat 3), none))), some (zo_ret1 0 0 0), none, none, some (zo_push 85 (.inl ((.ofNat 0, .ofNat 0), none))), some (zo_ret1 0 0 0)]]
noncomputable def mX3_binding : zM := (yX3_binding, cX3_binding, 1, (some .int), 0, 0, kX3_binding)
noncomputable def kX3_closeBracket : zCode := [[some (zo_loadA 1 0), some (zo_get 4 3 6), none, none, some (zo_if zd_ne 9 7), none, none, none, none, some (zo_loadA 10 0), some (zo_push 11 (.inl ((.ofNat 1, .ofNat 1), none))), some (zo_call 14 44 2 0 0 0 0 (zrecv 3)), none, none, some (zo_loadA 15 0), some (zo_dup 16)],
  [some (zo_get 19 3 6), none, none, some (zo_push 20 (.inl ((.ofNat 1, .ofNat 1), none))), some (zo_sub 21), some (zo_put 24 3 6 0), none, none, some (zo_loadA 25 0), some (zo_push 26 (.inl ((.ofNat 0, .ofNat 0), none))), some (zo_loadA 27 0), some (zo_get 30 3 5), none, none, some (zo_push 31 (.inl ((.ofNat 1, .ofNat 1), none))), some (zo_sub 32)],
  [some (zo_m2 35 0 0 zi_max), none, none, some (zo_put 38 3 5 0), none, none, some (zo_push 39 (.inl ((.ofNat 1, .ofNat 1), none))), some (zo_ret1 0 0 2)]]
noncomputable def mX3_closeBracket : zM := (yX3_closeBracket, cX3_closeBracket, 1, (some .boolean), 0, 0, kX3_closeBracket)
noncomputable def kX3_emit : zCode := [[some (zo_loadA 1 0), some (zo_get 4 3 4), none, none, some (zo_loadA 5 0), some (zo_get 8 3 0), none, none, some (zo_len 9), some (zo_ic zc_ge 32 12), none, none, some (zo_loadA 13 0), some (zo_get 16 3 0), none, none],
  [some (zo_loadA 17 0), some (zo_get 20 3 4), none, none, some (zo_loadI 21 1), some (zo_ast 22 0), some (zo_loadA 23 0), some (zo_dup 24), some (zo_get 27 3 4), none, none, some (zo_push 28 (.inl ((.ofNat 1, .ofNat 1), none))), some (zo_add 29), some (zo_put 32 3 4 0), none, none],
  [some (zo_ret0 0 0)]]
noncomputable def mX3_emit : zM := (yX3_emit, cX3_emit, 2, none, 0, 0, kX3_emit)
noncomputable def kX3_init : zCode := [[some (zo_loadA 1 0), some (zo_objInit 4), none, none, some (zo_loadA 5 0), some (zo_push 7 (.inl ((.ofNat 40, .ofNat 40), none))), none, some (zo_newa 9 0 4 125 (.inl ((.ofNat 0, .ofNat 0), none))), none, some (zo_put 12 3 0 3), none, none, some (zo_loadA 13 0), some (zo_push 15 (.inl ((.ofNat 40, .ofNat 40), none))), none, some (zo_newa 17 0 4 125 (.inl ((.ofNat 0, .ofNat 0), none)))],
  [none, some (zo_put 20 3 1 3), none, none, some (zo_loadA 21 0), some (zo_push 23 (.inl ((.ofNat 40, .ofNat 40), none))), none, some (zo_newa 25 0 4 125 (.inl ((.ofNat 0, .ofNat 0), none))), none, some (zo_put 28 3 2 3), none, none, some (zo_loadA 29 0), some (zo_push 30 (.inl ((.ofNat 5, .ofNat 5), none))), some (zo_newa 32 2 4 125 (.inl ((.ofNat 0, .ofNat 0), none))), none],
  [some (zo_put 35 3 3 3), none, none, some (zo_loadA 36 0), some (zo_call 39 43 1 0 0 4 125 (zrecv 3)), none, none, some (zo_ret0 4 125)]]
noncomputable def mX3_init : zM := (yX3_init, cX3_init, 1, none, 4, 125, kX3_init)
noncomputable def kX3_openBracket : zCode := [[some (zo_loadA 1 0), some (zo_get 4 3 6), none, none, some (zo_push 5 (.inl ((.ofNat 4, .ofNat 4), none))), some (zo_ic zc_lt 10 8), none, none, none, none, some (zo_loadA 11 0), some (zo_dup 12), some (zo_get 15 3 6), none, none, some (zo_push 16 (.inl ((.ofNat 1, .ofNat 1), none)))],
  [some (zo_add 17), some (zo_put 20 3 6 0), none, none, some (zo_loadA 21 0), some (zo_get 24 3 3), none, none, some (zo_loadA 25 0), some (zo_get 28 3 6), none, none, some (zo_push 29 (.inl ((.ofNat 0, .ofNat 0), none))), some (zo_bast 30), some (zo_loadA 31 0), some (zo_push 33 (.inl ((.ofNat 40, .ofNat 40), none)))],
  [none, some (zo_call 36 35 2 0 0 0 0 (zrecv 3)), none, none, some (zo_push 37 (.inl ((.ofNat 1, .ofNat 1), none))), some (zo_ret1 0 0 2)]]
noncomputable def mX3_openBracket : zM := (yX3_openBracket, cX3_openBracket, 1, (some .boolean), 0, 0, kX3_openBracket)
noncomputable def kX3_read : zCode := [[some (zo_loadA 1 1), some (zo_get 4 6 1), none, none, some (zo_if zd_ne 13 7), none, none, some (zo_loadA 8 0), some (zo_call 11 43 1 0 0 0 0 (zrecv 3)), none, none, some (zo_push 12 (.inl ((.negSucc 0, .negSucc 0), none))), some (zo_ret1 0 0 0), none, none, none],
  [none, none, none, none, none, none, none, none, none, none, none, none, none, none, none, none],
  [none, none, none, none, none, none, none, none, none, none, none, none, none, none, none, none],
  [none, none, none, none, none, none, none, none, none, none, none, none, none, none, none, none],
  [none, none, none, none, none, none, none, none, none, none, none, none, none, none, none, none],
  [none, none, none, none, none, none, none, none, none, none, none, none, none, none, none, none],
  [none, none, none, none, none, none, none, none, none, none, none, none, none, none]]
noncomputable def mX3_read : zM := (yX3_read, cX3_read, 6, (some .int), 0, 0, kX3_read)
noncomputable def kX3_readFirst : zCode := [[some (zo_loadA 1 0), some (zo_call 4 36 1 0 0 0 0 (zrecv 3)), none, none, some (zo_push 5 (.inl ((.ofNat 0, .ofNat 0), none))), some (zo_stI 6 1), some (zo_loadI 7 1), some (zo_push 9 (.inr (.inr (.inr (.inr 0))))), none, some (zo_call 12 7 1 0 0 0 0 zrecvS), none, none, some (zo_ic zc_ge 53 15), none, none, some (zo_loadA 16 0)],
  [some (zo_get 19 3 8), none, none, some (zo_if zd_eq 36 22), none, none, some (zo_loadA 23 0), some (zo_push 25 (.inr (.inr (.inr (.inr 0))))), none, some (zo_loadI 26 1), some (zo_call 29 0 2 0 0 0 0 zrecvS), none, none, some (zo_call 32 46 2 0 0 0 0 (zrecv 3)), none, none],
  [some (zo_pop 33), some (zo_goto 47), none, none, some (zo_loadA 37 0), some (zo_push 39 (.inr (.inr (.inr (.inr 0))))), none, some (zo_loadI 40 1), some (zo_call 43 0 2 0 0 0 0 zrecvS), none, none, some (zo_call 46 45 2 0 0 0 0 (zrecv 3)), none, none, some (zo_pop 47), some (zo_inc 50 1 (.ofNat 1))],
  [none, none, some (zo_goto 6), none, none, some (zo_loadA 54 0), some (zo_push 55 (.inl ((.ofNat 1, .ofNat 1), none))), some (zo_call 58 44 2 0 0 0 0 (zrecv 3)), none, none, some (zo_ret0 0 0)]]
noncomputable def mX3_readFirst : zM := (yX3_readFirst, cX3_readFirst, 2, none, 0, 0, kX3_readFirst)
noncomputable def kX3_reckonDownTo : zCode := [[some (zo_loadA 1 0), some (zo_get 4 3 5), none, none, some (zo_if zd_le 52 7), none, none, some (zo_loadA 8 0), some (zo_get 11 3 1), none, none, some (zo_loadA 12 0), some (zo_get 15 3 5), none, none, some (zo_push 16 (.inl ((.ofNat 1, .ofNat 1), none)))],
  [some (zo_sub 17), some (zo_ald 18 0), some (zo_call 21 37 1 0 0 0 0 zrecv0), none, none, some (zo_loadI 22 1), some (zo_ic zc_lt 52 25), none, none, some (zo_loadA 26 0), some (zo_dup 27), some (zo_get 30 3 5), none, none, some (zo_push 31 (.inl ((.ofNat 1, .ofNat 1), none))), some (zo_sub 32)],
  [some (zo_put 35 3 5 0), none, none, some (zo_loadA 36 0), some (zo_loadA 37 0), some (zo_get 40 3 1), none, none, some (zo_loadA 41 0), some (zo_get 44 3 5), none, none, some (zo_ald 45 0), some (zo_i1 46 zi_neg), some (zo_call 49 39 2 0 0 0 0 (zrecv 3)), none],
  [none, some (zo_goto 0), none, none, some (zo_ret0 0 0)]]
noncomputable def mX3_reckonDownTo : zM := (yX3_reckonDownTo, cX3_reckonDownTo, 2, none, 0, 0, kX3_reckonDownTo)
noncomputable def kX3_takeBehindThing : zCode := [[some (zo_loadI 1 1), some (zo_call 4 99 1 0 0 0 0 zrecv0), none, none, some (zo_if zd_eq 16 7), none, none, none, none, none, none, none, none, none, none, none],
  [some (zo_loadA 17 0), some (zo_push 18 (.inl ((.ofNat 0, .ofNat 0), none))), some (zo_put 21 3 7 0), none, none, some (zo_loadI 22 1), some (zo_push 24 (.inl ((.ofNat 41, .ofNat 41), none))), none, some (zo_ic zc_ne 32 27), none, none, some (zo_loadA 28 0), some (zo_call 31 38 1 0 0 0 0 (zrecv 3)), none, none, some (zo_ret1 0 0 2)],
  [some (zo_loadI 33 1), some (zo_call 36 37 1 0 0 0 0 zrecv0), none, none, some (zo_stI 37 2), some (zo_loadI 38 2), some (zo_if zd_eq 58 41), none, none, some (zo_loadI 42 2), some (zo_push 43 (.inl ((.ofNat 1, .ofNat 1), none))), some (zo_ic zc_ne 60 46), none, none, some (zo_loadA 47 0), some (zo_get 50 3 3)],
  [none, none, some (zo_loadA 51 0), some (zo_get 54 3 6), none, none, some (zo_bald 55), some (zo_if zd_eq 60 58), none, none, none, none, some (zo_loadA 61 0), some (zo_get 64 3 3), none, none],
  [some (zo_loadA 65 0), some (zo_get 68 3 6), none, none, some (zo_loadA 69 0), some (zo_get 72 3 3), none, none, some (zo_loadA 73 0), some (zo_get 76 3 6), none, none, some (zo_bald 77), some (zo_if zd_ne 85 80), none, none],
  [some (zo_loadI 81 2), some (zo_push 82 (.inl ((.ofNat 1, .ofNat 1), none))), some (zo_ic zc_ne 89 85), none, none, some (zo_push 86 (.inl ((.ofNat 1, .ofNat 1), none))), some (zo_goto 90), none, none, some (zo_push 90 (.inl ((.ofNat 0, .ofNat 0), none))), some (zo_bast 91), some (zo_loadA 92 0), some (zo_loadI 93 2), some (zo_call 96 44 2 0 0 0 0 (zrecv 3)), none, none],
  [some (zo_loadA 97 0), some (zo_loadI 98 1), some (zo_call 101 35 2 0 0 0 0 (zrecv 3)), none, none, some (zo_loadA 102 0), some (zo_push 103 (.inl ((.ofNat 1, .ofNat 1), none))), some (zo_put 106 3 8 2), none, none, some (zo_push 107 (.inl ((.ofNat 1, .ofNat 1), none))), some (zo_ret1 0 0 2)]]
noncomputable def mX3_takeBehindThing : zM := (yX3_takeBehindThing, cX3_takeBehindThing, 3, (some .boolean), 0, 0, kX3_takeBehindThing)
noncomputable def kX3_takeThing : zCode := [[some (zo_loadI 1 1), some (zo_push 3 (.inl ((.ofNat 45, .ofNat 45), none))), none, some (zo_ic zc_ne 15 6), none, none, none, none, none, none, none, none, none, none, none, some (zo_loadI 16 1)],
  [some (zo_push 18 (.inl ((.ofNat 40, .ofNat 40), none))), none, some (zo_ic zc_ne 26 21), none, none, some (zo_loadA 22 0), some (zo_call 25 41 1 0 0 0 0 (zrecv 3)), none, none, some (zo_ret1 0 0 2), some (zo_push 28 (.inr (.inr (.inr (.inr 2))))), none, some (zo_loadI 29 1), some (zo_i1 30 zi_c), some (zo_call 33 4 2 0 0 0 0 zrecvS), none],
  [none, some (zo_stI 34 2), some (zo_loadI 35 1), some (zo_call 38 99 1 0 0 0 0 zrecv0), none, none, some (zo_if zd_ne 47 41), none, none, some (zo_loadI 42 2), some (zo_if zd_ge 47 45), none, none, none, none, some (zo_loadA 48 0)],
  [some (zo_loadI 49 2), some (zo_if zd_ge 56 52), none, none, some (zo_push 53 (.inl ((.ofNat 1, .ofNat 1), none))), some (zo_goto 57), none, none, some (zo_push 57 (.inl ((.ofNat 0, .ofNat 0), none))), some (zo_put 60 3 7 0), none, none, some (zo_loadA 61 0), some (zo_loadI 62 2), some (zo_if zd_ge 72 65), none],
  [none, some (zo_loadI 66 1), some (zo_push 68 (.inl ((.ofNat 48, .ofNat 48), none))), none, some (zo_sub 69), some (zo_goto 75), none, none, some (zo_push 73 (.inl ((.negSucc 0, .negSucc 0), none))), some (zo_loadI 74 2), some (zo_sub 75), some (zo_call 78 39 2 0 0 0 0 (zrecv 3)), none, none, some (zo_loadA 79 0), some (zo_push 80 (.inl ((.ofNat 0, .ofNat 0), none)))],
  [some (zo_put 83 3 8 2), none, none, some (zo_push 84 (.inl ((.ofNat 1, .ofNat 1), none))), some (zo_ret1 0 0 2)]]
noncomputable def mX3_takeThing : zM := (yX3_takeThing, cX3_takeThing, 3, (some .boolean), 0, 0, kX3_takeThing)
noncomputable def kX4_addLeast : zCode := [[some (zo_loadA 1 0), some (zo_get 4 4 13), none, none, some (zo_stI 5 2), some (zo_loadI 6 2), some (zo_if zd_le 85 9), none, none, some (zo_loadI 10 2), some (zo_loadI 11 1), some (zo_i2 12 zi_and), some (zo_stI 13 3), some (zo_loadA 14 0), some (zo_get 17 4 7), none],
  [none, some (zo_loadI 18 2), some (zo_ald 19 1), some (zo_stL 21 4), none, some (zo_loadI 22 3), some (zo_stI 24 6), none, some (zo_loadI 26 6), none, some (zo_if zd_le 71 29), none, none, none, none, none],
  [none, none, none, none, none, none, none, none, none, none, none, none, none, none, none, none],
  [none, none, none, none, none, none, none, none, none, none, none, none, none, none, none, none],
  [none, none, none, none, none, none, none, some (zo_loadA 72 0), some (zo_get 75 4 7), none, none, some (zo_loadI 76 2), some (zo_loadL 78 4), none, some (zo_ast 79 1), some (zo_inc 82 2 (.negSucc 0))],
  [none, none, some (zo_goto 5), none, none, some (zo_ret0 0 0)]]
noncomputable def mX4_addLeast : zM := (yX4_addLeast, cX4_addLeast, 9, none, 0, 0, kX4_addLeast)
noncomputable def kX4_addLeastMost : zCode := [[some (zo_loadA 1 0), some (zo_get 4 4 13), none, none, some (zo_stI 5 2), some (zo_loadI 6 2), some (zo_if zd_le 107 9), none, none, some (zo_loadI 10 2), some (zo_loadI 11 1), some (zo_i2 12 zi_and), some (zo_stI 13 3), some (zo_loadA 14 0), some (zo_get 17 4 7), none],
  [none, some (zo_loadI 18 2), some (zo_ald 19 1), some (zo_stL 21 4), none, some (zo_loadI 22 3), some (zo_stI 24 6), none, some (zo_loadI 26 6), none, some (zo_if zd_le 93 29), none, none, none, none, none],
  [none, none, none, none, none, none, none, none, none, none, none, none, none, none, none, none],
  [none, none, none, none, none, none, none, none, none, none, none, none, none, none, none, none],
  [none, none, none, none, none, none, none, none, none, none, none, none, none, none, none, none],
  [none, none, none, none, none, none, none, none, none, none, none, none, none, some (zo_loadA 94 0), some (zo_get 97 4 7), none],
  [none, some (zo_loadI 98 2), some (zo_loadL 100 4), none, some (zo_ast 101 1), some (zo_inc 104 2 (.negSucc 0)), none, none, some (zo_goto 5), none, none, some (zo_ret0 0 0)]]
noncomputable def mX4_addLeastMost : zM := (yX4_addLeastMost, cX4_addLeastMost, 9, none, 0, 0, kX4_addLeastMost)
noncomputable def kX4_addStep : zCode := [[some (zo_loadI 1 1), some (zo_if zd_ne 5 4), none, none, some (zo_ret0 0 0), none, none, none, none, none, none, none, none, none, none, none],
  [none, none, none, none, none, none, none, none, none, none, none, none, none, none, none, none],
  [none, none, none, none, none, none, none, none, none, none, none, none, none, none, none, none],
  [none, none, none, none, none, none]]
noncomputable def mX4_addStep : zM := (yX4_addStep, cX4_addStep, 4, none, 0, 0, kX4_addStep)
noncomputable def kX4_addWays : zCode := [[some (zo_loadA 1 0), some (zo_loadI 3 4), none, some (zo_call 6 61 2 0 0 0 0 (zrecv 4)), none, none, some (zo_loadA 7 0), some (zo_get 10 4 13), none, none, some (zo_stI 12 5), none, some (zo_loadI 14 5), none, some (zo_if zd_lt 100 17), none],
  [none, some (zo_loadI 19 5), none, some (zo_loadA 20 0), some (zo_get 23 4 0), none, none, some (zo_loadI 25 4), none, some (zo_ald 26 0), some (zo_i2 27 zi_and), some (zo_stI 29 6), none, some (zo_loadA 30 1), some (zo_loadI 31 2), some (zo_loadI 33 5)],
  [none, some (zo_add 34), some (zo_ald 35 0), some (zo_stI 37 7), none, some (zo_loadI 39 6), none, some (zo_stI 41 8), none, some (zo_loadI 43 8), none, some (zo_if zd_le 86 46), none, none, none, none],
  [none, none, none, none, none, none, none, none, none, none, none, none, none, none, none, none],
  [none, none, none, none, none, none, none, none, none, none, none, none, none, none, none, none],
  [none, none, none, none, none, none, some (zo_loadA 87 1), some (zo_loadI 88 3), some (zo_loadI 90 5), none, some (zo_add 91), some (zo_loadI 93 7), none, some (zo_ast 94 0), some (zo_inc 97 5 (.negSucc 0)), none],
  [none, some (zo_goto 12), none, none, some (zo_ret0 0 0)]]
noncomputable def mX4_addWays : zM := (yX4_addWays, cX4_addWays, 9, none, 0, 0, kX4_addWays)
noncomputable def kX4_canHold : zCode := [[some (zo_loadA 1 0), some (zo_get 4 4 7), none, none, some (zo_loadI 5 1), some (zo_loadA 6 0), some (zo_get 9 4 13), none, none, some (zo_i2 10 zi_and), some (zo_ald 11 1), some (zo_push 14 (.inr (.inl (.ofNat 1152921504606846976, .ofNat 1152921504606846976)))), none, none, some (zo_lcmp 15), some (zo_if zd_ge 22 18)],
  [none, none, none, none, none, none, some (zo_push 23 (.inl ((.ofNat 0, .ofNat 0), none))), some (zo_ret1 0 0 2)]]
noncomputable def mX4_canHold : zM := (yX4_canHold, cX4_canHold, 2, (some .boolean), 0, 0, kX4_canHold)
noncomputable def kX4_findLacks : zCode := [[some (zo_push 1 (.inl ((.ofNat 0, .ofNat 0), none))), some (zo_stI 2 1), some (zo_loadI 3 1), some (zo_push 6 (.inl ((.ofNat 256, .ofNat 256), none))), none, none, some (zo_ic zc_ge 30 9), none, none, some (zo_loadA 10 0), some (zo_get 13 4 11), none, none, some (zo_loadI 14 1), some (zo_loadI 15 1), some (zo_if zd_ne 22 18)],
  [none, none, some (zo_push 19 (.inl ((.ofNat 1, .ofNat 1), none))), some (zo_goto 23), none, none, some (zo_push 23 (.inl ((.ofNat 0, .ofNat 0), none))), some (zo_bast 24), some (zo_inc 27 1 (.ofNat 1)), none, none, some (zo_goto 2), none, none, some (zo_push 31 (.inl ((.ofNat 1, .ofNat 1), none))), some (zo_stI 32 1)],
  [some (zo_loadI 33 1), some (zo_loadA 34 0), some (zo_get 37 4 13), none, none, some (zo_ic zc_gt 51 40), none, none, some (zo_loadA 41 0), some (zo_loadI 42 1), some (zo_call 45 53 2 0 0 0 0 (zrecv 4)), none, none, some (zo_inc 48 1 (.ofNat 1)), none, none],
  [some (zo_goto 32), none, none, some (zo_ret0 0 0)]]
noncomputable def mX4_findLacks : zM := (yX4_findLacks, cX4_findLacks, 2, none, 0, 0, kX4_findLacks)
noncomputable def kX4_findLacksIn : zCode := [[some (zo_loadI 1 1), some (zo_call 4 14 1 0 0 0 0 zrecv0), none, none, some (zo_stI 5 2), some (zo_loadA 6 0), some (zo_get 9 4 12), none, none, some (zo_push 10 (.inl ((.ofNat 0, .ofNat 0), none))), some (zo_push 11 (.inl ((.ofNat 0, .ofNat 0), none))), some (zo_ast 12 0), some (zo_push 13 (.inl ((.ofNat 0, .ofNat 0), none))), some (zo_stI 14 3), some (zo_loadI 15 3), some (zo_push 17 (.inl ((.ofNat 8, .ofNat 8), none)))],
  [none, some (zo_ic zc_ge 110 20), none, none, some (zo_push 21 (.inl ((.ofNat 1, .ofNat 1), none))), some (zo_loadI 22 3), some (zo_i2 23 zi_shl), some (zo_stI 25 4), none, some (zo_loadA 26 0), some (zo_get 29 4 1), none, none, some (zo_loadI 30 3), some (zo_ald 31 0), some (zo_loadA 32 0)],
  [some (zo_get 35 4 0), none, none, some (zo_loadI 36 3), some (zo_ald 37 0), some (zo_loadI 38 1), some (zo_i2 39 zi_and), some (zo_call 42 14 1 0 0 0 0 zrecv0), none, none, some (zo_m2 45 0 0 zi_min), none, none, some (zo_stI 47 5), none, some (zo_push 48 (.inl ((.ofNat 0, .ofNat 0), none)))],
  [some (zo_stI 50 6), none, some (zo_loadI 52 6), none, some (zo_loadI 54 4), none, some (zo_ic zc_ge 104 57), none, none, some (zo_loadA 58 0), some (zo_get 61 4 12), none, none, some (zo_loadI 63 6), none, some (zo_ald 64 0)],
  [some (zo_loadI 66 5), none, some (zo_add 67), some (zo_stI 69 7), none, some (zo_loadA 70 0), some (zo_get 73 4 12), none, none, some (zo_loadI 75 6), none, some (zo_loadI 77 4), none, some (zo_add 78), some (zo_loadI 80 7), none],
  [some (zo_ast 81 0), some (zo_loadI 83 7), none, some (zo_loadI 84 2), some (zo_ic zc_ge 98 87), none, none, some (zo_loadA 88 0), some (zo_get 91 4 11), none, none, some (zo_loadI 93 6), none, some (zo_loadI 95 4), none, some (zo_add 96)],
  [some (zo_push 97 (.inl ((.ofNat 1, .ofNat 1), none))), some (zo_bast 98), some (zo_inc 101 6 (.ofNat 1)), none, none, some (zo_goto 50), none, none, some (zo_inc 107 3 (.ofNat 1)), none, none, some (zo_goto 14), none, none, some (zo_ret0 0 0)]]
noncomputable def mX4_findLacksIn : zM := (yX4_findLacksIn, cX4_findLacksIn, 8, none, 0, 0, kX4_findLacksIn)
noncomputable def kX4_init : zCode := [[some (zo_loadA 1 0), some (zo_objInit 4), none, none, some (zo_loadA 5 0), some (zo_push 7 (.inl ((.ofNat 8, .ofNat 8), none))), none, some (zo_newa 9 0 13 3752 (.inl ((.ofNat 0, .ofNat 0), none))), none, some (zo_put 12 4 0 3), none, none, some (zo_loadA 13 0), some (zo_push 15 (.inl ((.ofNat 8, .ofNat 8), none))), none, some (zo_newa 17 0 13 3752 (.inl ((.ofNat 0, .ofNat 0), none)))],
  [none, some (zo_put 20 4 1 3), none, none, some (zo_loadA 21 0), some (zo_push 23 (.inl ((.ofNat 8, .ofNat 8), none))), none, some (zo_newa 25 0 13 3752 (.inl ((.ofNat 0, .ofNat 0), none))), none, some (zo_put 28 4 2 3), none, none, some (zo_loadA 29 0), some (zo_push 31 (.inl ((.ofNat 8, .ofNat 8), none))), none, some (zo_newa 33 0 13 3752 (.inl ((.ofNat 0, .ofNat 0), none)))],
  [none, some (zo_put 36 4 3 3), none, none, some (zo_loadA 37 0), some (zo_push 39 (.inl ((.ofNat 64, .ofNat 64), none))), none, some (zo_newa 41 1 13 3752 (.inr (.inl (.ofNat 0, .ofNat 0)))), none, some (zo_put 44 4 4 3), none, none, some (zo_loadA 45 0), some (zo_push 47 (.inl ((.ofNat 8, .ofNat 8), none))), none, some (zo_newa 49 1 13 3752 (.inr (.inl (.ofNat 0, .ofNat 0))))],
  [none, some (zo_put 52 4 5 3), none, none, some (zo_loadA 53 0), some (zo_push 56 (.inl ((.ofNat 256, .ofNat 256), none))), none, none, some (zo_newa 58 1 13 3752 (.inr (.inl (.ofNat 0, .ofNat 0)))), none, some (zo_put 61 4 6 3), none, none, some (zo_loadA 62 0), some (zo_push 65 (.inl ((.ofNat 256, .ofNat 256), none))), none],
  [none, some (zo_newa 67 1 13 3752 (.inr (.inl (.ofNat 0, .ofNat 0)))), none, some (zo_put 70 4 7 3), none, none, some (zo_loadA 71 0), some (zo_push 74 (.inl ((.ofNat 2304, .ofNat 2304), none))), none, none, some (zo_newa 76 0 13 3752 (.inl ((.ofNat 0, .ofNat 0), none))), none, some (zo_put 79 4 8 3), none, none, some (zo_loadA 80 0)],
  [some (zo_push 83 (.inl ((.ofNat 256, .ofNat 256), none))), none, none, some (zo_newa 85 0 13 3752 (.inl ((.ofNat 0, .ofNat 0), none))), none, some (zo_put 88 4 9 3), none, none, some (zo_loadA 89 0), some (zo_push 91 (.inl ((.ofNat 64, .ofNat 64), none))), none, some (zo_newa 93 0 13 3752 (.inl ((.ofNat 0, .ofNat 0), none))), none, some (zo_put 96 4 10 3), none, none],
  [some (zo_loadA 97 0), some (zo_push 100 (.inl ((.ofNat 256, .ofNat 256), none))), none, none, some (zo_newa 102 2 13 3752 (.inl ((.ofNat 0, .ofNat 0), none))), none, some (zo_put 105 4 11 3), none, none, some (zo_loadA 106 0), some (zo_push 109 (.inl ((.ofNat 256, .ofNat 256), none))), none, none, some (zo_newa 111 0 13 3752 (.inl ((.ofNat 0, .ofNat 0), none))), none, some (zo_put 114 4 12 3)],
  [none, none, some (zo_ret0 13 3752)]]
noncomputable def mX4_init : zM := (yX4_init, cX4_init, 1, none, 13, 3752, kX4_init)
noncomputable def kX4_lacks : zCode := [[some (zo_loadA 1 0), some (zo_get 4 4 11), none, none, some (zo_loadI 5 1), some (zo_push 8 (.inl ((.ofNat 255, .ofNat 255), none))), none, none, some (zo_i2 9 zi_and), some (zo_bald 10), some (zo_ret1 0 0 2)]]
noncomputable def mX4_lacks : zM := (yX4_lacks, cX4_lacks, 2, (some .boolean), 0, 0, kX4_lacks)
noncomputable def kX4_least : zCode := [[some (zo_loadA 1 0), some (zo_get 4 4 7), none, none, some (zo_push 7 (.inr (.inl (.ofNat 1152921504606846976, .ofNat 1152921504606846976)))), none, none, some (zo_call 10 17 2 0 0 0 0 zrecv0), none, none, some (zo_loadA 11 0), some (zo_get 14 4 7), none, none, some (zo_push 15 (.inl ((.ofNat 0, .ofNat 0), none))), some (zo_push 16 (.inr (.inl (.ofNat 0, .ofNat 0))))],
  [some (zo_ast 17 1), some (zo_push 18 (.inl ((.ofNat 0, .ofNat 0), none))), some (zo_stI 19 1), some (zo_loadI 20 1), some (zo_push 22 (.inl ((.ofNat 8, .ofNat 8), none))), none, some (zo_ic zc_ge 66 25), none, none, some (zo_loadA 26 0), some (zo_loadA 27 0), some (zo_get 30 4 2), none, none, some (zo_loadI 31 1), some (zo_ald 32 0)],
  [some (zo_call 35 61 2 0 0 0 0 (zrecv 4)), none, none, some (zo_loadA 36 0), some (zo_loadA 37 0), some (zo_get 40 4 0), none, none, some (zo_loadA 41 0), some (zo_get 44 4 2), none, none, some (zo_loadI 45 1), some (zo_ald 46 0), some (zo_ald 47 0), some (zo_call 50 47 2 0 0 0 0 (zrecv 4))],
  [none, none, some (zo_loadA 51 0), some (zo_loadA 52 0), some (zo_get 55 4 3), none, none, some (zo_loadI 56 1), some (zo_ald 57 0), some (zo_call 60 49 2 0 0 0 0 (zrecv 4)), none, none, some (zo_inc 63 1 (.ofNat 1)), none, none, some (zo_goto 19)],
  [none, none, some (zo_loadA 67 0), some (zo_get 70 4 7), none, none, some (zo_loadA 71 0), some (zo_get 74 4 13), none, none, some (zo_ald 75 1), some (zo_ret1 0 0 1)]]
noncomputable def mX4_least : zM := (yX4_least, cX4_least, 2, (some .long), 0, 0, kX4_least)
noncomputable def kX4_leastMost : zCode := [[some (zo_loadA 1 0), some (zo_get 4 4 7), none, none, some (zo_push 7 (.inr (.inl (.ofNat 1152921504606846976, .ofNat 1152921504606846976)))), none, none, some (zo_call 10 17 2 0 0 0 0 zrecv0), none, none, some (zo_loadA 11 0), some (zo_get 14 4 7), none, none, some (zo_push 15 (.inl ((.ofNat 0, .ofNat 0), none))), some (zo_push 16 (.inr (.inl (.ofNat 0, .ofNat 0))))],
  [some (zo_ast 17 1), some (zo_push 18 (.inl ((.ofNat 0, .ofNat 0), none))), some (zo_stI 19 1), some (zo_loadI 20 1), some (zo_push 22 (.inl ((.ofNat 8, .ofNat 8), none))), none, some (zo_ic zc_ge 46 25), none, none, some (zo_loadA 26 0), some (zo_loadI 27 1), some (zo_call 30 61 2 0 0 0 0 (zrecv 4)), none, none, some (zo_loadA 31 0), some (zo_loadA 32 0)],
  [some (zo_get 35 4 0), none, none, some (zo_loadI 36 1), some (zo_ald 37 0), some (zo_call 40 48 2 0 0 0 0 (zrecv 4)), none, none, some (zo_inc 43 1 (.ofNat 1)), none, none, some (zo_goto 19), none, none, some (zo_loadA 47 0), some (zo_get 50 4 7)],
  [none, none, some (zo_loadA 51 0), some (zo_get 54 4 13), none, none, some (zo_ald 55 1), some (zo_ret1 0 0 1)]]
noncomputable def mX4_leastMost : zM := (yX4_leastMost, cX4_leastMost, 2, (some .long), 0, 0, kX4_leastMost)
noncomputable def kX4_open : zCode := [[some (zo_loadA 1 0), some (zo_push 2 (.inl ((.ofNat 1, .ofNat 1), none))), some (zo_loadI 3 1), some (zo_i2 4 zi_shl), some (zo_push 5 (.inl ((.ofNat 1, .ofNat 1), none))), some (zo_sub 6), some (zo_put 9 4 13 0), none, none, some (zo_loadA 10 0), some (zo_push 13 (.inr (.inl (.ofNat 1152921504606846975, .ofNat 1152921504606846975)))), none, none, some (zo_put 16 4 14 1), none, none],
  [some (zo_loadA 17 0), some (zo_get 20 4 0), none, none, some (zo_push 21 (.inl ((.ofNat 0, .ofNat 0), none))), some (zo_call 24 16 2 0 0 0 0 zrecv0), none, none, some (zo_loadA 25 0), some (zo_get 28 4 1), none, none, some (zo_push 29 (.inl ((.ofNat 0, .ofNat 0), none))), some (zo_call 32 16 2 0 0 0 0 zrecv0), none, none],
  [some (zo_loadA 33 0), some (zo_get 36 4 3), none, none, some (zo_push 37 (.inl ((.ofNat 0, .ofNat 0), none))), some (zo_call 40 16 2 0 0 0 0 zrecv0), none, none, some (zo_loadA 41 0), some (zo_get 44 4 5), none, none, some (zo_push 45 (.inr (.inl (.ofNat 0, .ofNat 0)))), some (zo_call 48 17 2 0 0 0 0 zrecv0), none, none],
  [some (zo_loadA 49 0), some (zo_get 52 4 4), none, none, some (zo_push 53 (.inr (.inl (.ofNat 0, .ofNat 0)))), some (zo_call 56 17 2 0 0 0 0 zrecv0), none, none, some (zo_push 57 (.inl ((.ofNat 0, .ofNat 0), none))), some (zo_stI 58 2), some (zo_loadI 59 2), some (zo_push 61 (.inl ((.ofNat 8, .ofNat 8), none))), none, some (zo_ic zc_ge 77 64), none, none],
  [some (zo_loadA 65 0), some (zo_get 68 4 2), none, none, some (zo_loadI 69 2), some (zo_loadI 70 2), some (zo_ast 71 0), some (zo_inc 74 2 (.ofNat 1)), none, none, some (zo_goto 58), none, none, some (zo_ret0 0 0)]]
noncomputable def mX4_open : zM := (yX4_open, cX4_open, 3, none, 0, 0, kX4_open)
noncomputable def kX4_orderByWidth : zCode := [[some (zo_push 1 (.inl ((.ofNat 1, .ofNat 1), none))), some (zo_stI 2 3), some (zo_loadI 3 3), some (zo_loadI 4 2), some (zo_ic zc_ge 86 7), none, none, none, none, none, none, none, none, none, none, none],
  [none, none, none, none, none, none, none, none, none, none, none, none, none, none, none, none],
  [none, none, none, none, none, none, none, none, none, none, none, none, none, none, none, none],
  [none, none, none, none, none, none, none, none, none, none, none, none, none, none, none, none],
  [none, none, none, none, none, none, none, none, none, none, none, none, none, none, none, none],
  [none, none, none, none, none, none, some (zo_push 87 (.inl ((.ofNat 1, .ofNat 1), none))), some (zo_stI 88 3), some (zo_loadI 89 3), some (zo_loadI 90 2), some (zo_ic zc_ge 126 93), none, none, none, none, none],
  [none, none, none, none, none, none, none, none, none, none, none, none, none, none, none, none],
  [none, none, none, none, none, none, none, none, none, none, none, none, none, none, some (zo_ret0 0 0)]]
noncomputable def mX4_orderByWidth : zM := (yX4_orderByWidth, cX4_orderByWidth, 6, none, 0, 0, kX4_orderByWidth)
noncomputable def kX4_ways : zCode := [[some (zo_push 1 (.inl ((.ofNat 0, .ofNat 0), none))), some (zo_stI 2 1), some (zo_loadI 3 1), some (zo_push 6 (.inl ((.ofNat 256, .ofNat 256), none))), none, none, some (zo_ic zc_ge 30 9), none, none, some (zo_loadA 10 0), some (zo_get 13 4 8), none, none, some (zo_loadI 14 1), some (zo_loadI 15 1), some (zo_if zd_ne 22 18)],
  [none, none, some (zo_push 19 (.inl ((.ofNat 1, .ofNat 1), none))), some (zo_goto 23), none, none, some (zo_push 23 (.inl ((.ofNat 0, .ofNat 0), none))), some (zo_ast 24 0), some (zo_inc 27 1 (.ofNat 1)), none, none, some (zo_goto 2), none, none, some (zo_push 31 (.inl ((.ofNat 0, .ofNat 0), none))), some (zo_stI 32 1)],
  [some (zo_loadI 33 1), some (zo_push 35 (.inl ((.ofNat 8, .ofNat 8), none))), none, some (zo_ic zc_ge 65 38), none, none, some (zo_loadA 39 0), some (zo_loadA 40 0), some (zo_get 43 4 8), none, none, some (zo_loadI 44 1), some (zo_push 47 (.inl ((.ofNat 256, .ofNat 256), none))), none, none, some (zo_i2 48 zi_mul)],
  [some (zo_loadI 49 1), some (zo_push 50 (.inl ((.ofNat 1, .ofNat 1), none))), some (zo_add 51), some (zo_push 54 (.inl ((.ofNat 256, .ofNat 256), none))), none, none, some (zo_i2 55 zi_mul), some (zo_loadI 56 1), some (zo_call 59 50 5 0 0 0 0 (zrecv 4)), none, none, some (zo_inc 62 1 (.ofNat 1)), none, none, some (zo_goto 32), none],
  [none, some (zo_loadA 66 0), some (zo_get 69 4 8), none, none, some (zo_push 72 (.inl ((.ofNat 2048, .ofNat 2048), none))), none, none, some (zo_loadA 73 0), some (zo_get 76 4 13), none, none, some (zo_add 77), some (zo_ald 78 0), some (zo_ret1 0 0 0)]]
noncomputable def mX4_ways : zM := (yX4_ways, cX4_ways, 2, (some .int), 0, 0, kX4_ways)
noncomputable def kX4_weigh : zCode := [[some (zo_loadA 1 0), some (zo_get 4 4 6), none, none, some (zo_push 5 (.inl ((.ofNat 0, .ofNat 0), none))), some (zo_push 6 (.inr (.inl (.ofNat 0, .ofNat 0)))), some (zo_ast 7 1), some (zo_push 8 (.inl ((.ofNat 1, .ofNat 1), none))), some (zo_stI 9 2), some (zo_loadI 10 2), some (zo_loadA 11 0), some (zo_get 14 4 13), none, none, some (zo_ic zc_gt 124 17), none],
  [none, some (zo_loadI 18 2), some (zo_loadA 19 0), some (zo_get 22 4 0), none, none, some (zo_loadI 23 1), some (zo_ald 24 0), some (zo_push 25 (.inl ((.negSucc 0, .negSucc 0), none))), some (zo_i2 26 zi_xor), some (zo_i2 27 zi_and), some (zo_if zd_eq 33 30), none, none, some (zo_goto 118), none],
  [none, none, none, none, none, none, none, none, none, none, none, none, none, none, none, none],
  [none, none, none, none, none, none, none, none, none, none, none, none, none, none, none, none],
  [none, none, none, none, none, none, none, none, none, none, none, none, none, none, none, none],
  [none, none, none, none, none, none, none, none, none, none, none, none, none, none, none, none],
  [none, none, none, none, none, none, none, none, none, none, none, none, none, none, none, none],
  [none, none, none, none, none, none, some (zo_inc 121 2 (.ofNat 1)), none, none, some (zo_goto 9), none, none, some (zo_ret0 0 0)]]
noncomputable def mX4_weigh : zM := (yX4_weigh, cX4_weigh, 6, none, 0, 0, kX4_weigh)
noncomputable def kX5_copy : zCode := [[some (zo_loadA 1 1), some (zo_get 4 5 0), none, none, some (zo_push 5 (.inl ((.ofNat 0, .ofNat 0), none))), some (zo_loadA 6 0), some (zo_get 9 5 0), none, none, some (zo_push 10 (.inl ((.ofNat 0, .ofNat 0), none))), some (zo_push 12 (.inl ((.ofNat 8, .ofNat 8), none))), none, some (zo_copy 15), none, none, some (zo_loadA 16 1)],
  [some (zo_get 19 5 1), none, none, some (zo_push 20 (.inl ((.ofNat 0, .ofNat 0), none))), some (zo_loadA 21 0), some (zo_get 24 5 1), none, none, some (zo_push 25 (.inl ((.ofNat 0, .ofNat 0), none))), some (zo_push 27 (.inl ((.ofNat 8, .ofNat 8), none))), none, some (zo_copy 30), none, none, some (zo_loadA 31 0), some (zo_loadA 32 1)],
  [some (zo_get 35 5 2), none, none, some (zo_put 38 5 2 0), none, none, some (zo_loadA 39 0), some (zo_loadA 40 1), some (zo_get 43 5 3), none, none, some (zo_put 46 5 3 0), none, none, some (zo_loadA 47 0), some (zo_loadA 48 1)],
  [some (zo_get 51 5 4), none, none, some (zo_put 54 5 4 0), none, none, some (zo_loadA 55 0), some (zo_loadA 56 1), some (zo_get 59 5 5), none, none, some (zo_put 62 5 5 0), none, none, some (zo_ret0 0 0)]]
noncomputable def mX5_copy : zM := (yX5_copy, cX5_copy, 2, none, 0, 0, kX5_copy)
noncomputable def kX5_init : zCode := [[some (zo_loadA 1 0), some (zo_objInit 4), none, none, some (zo_loadA 5 0), some (zo_push 7 (.inl ((.ofNat 8, .ofNat 8), none))), none, some (zo_newa 9 0 2 16 (.inl ((.ofNat 0, .ofNat 0), none))), none, some (zo_put 12 5 0 3), none, none, some (zo_loadA 13 0), some (zo_push 15 (.inl ((.ofNat 8, .ofNat 8), none))), none, some (zo_newa 17 0 2 16 (.inl ((.ofNat 0, .ofNat 0), none)))],
  [none, some (zo_put 20 5 1 3), none, none, some (zo_loadA 21 0), some (zo_get 24 5 0), none, none, some (zo_push 25 (.inl ((.negSucc 0, .negSucc 0), none))), some (zo_call 28 16 2 0 0 2 16 zrecv0), none, none, some (zo_ret0 2 16)]]
noncomputable def mX5_init : zM := (yX5_init, cX5_init, 1, none, 2, 16, kX5_init)
noncomputable def kX5_mostTired : zCode := [[some (zo_push 1 (.inl ((.ofNat 0, .ofNat 0), none))), some (zo_stI 2 1), some (zo_push 3 (.inl ((.ofNat 0, .ofNat 0), none))), some (zo_stI 4 2), some (zo_loadI 5 2), some (zo_push 7 (.inl ((.ofNat 8, .ofNat 8), none))), none, some (zo_ic zc_ge 27 10), none, none, some (zo_loadI 11 1), some (zo_loadA 12 0), some (zo_get 15 5 1), none, none, some (zo_loadI 16 2)],
  [some (zo_ald 17 0), some (zo_m2 20 0 0 zi_max), none, none, some (zo_stI 21 1), some (zo_inc 24 2 (.ofNat 1)), none, none, some (zo_goto 4), none, none, some (zo_loadI 28 1), some (zo_ret1 0 0 0)]]
noncomputable def mX5_mostTired : zM := (yX5_mostTired, cX5_mostTired, 3, (some .int), 0, 0, kX5_mostTired)
noncomputable def kX5_tiredOfAll : zCode := [[some (zo_push 1 (.inl ((.ofNat 0, .ofNat 0), none))), some (zo_stI 2 1), some (zo_push 3 (.inl ((.ofNat 0, .ofNat 0), none))), some (zo_stI 4 2), some (zo_loadI 5 2), some (zo_push 7 (.inl ((.ofNat 8, .ofNat 8), none))), none, some (zo_ic zc_ge 25 10), none, none, some (zo_loadI 11 1), some (zo_loadA 12 0), some (zo_get 15 5 1), none, none, some (zo_loadI 16 2)],
  [some (zo_ald 17 0), some (zo_add 18), some (zo_stI 19 1), some (zo_inc 22 2 (.ofNat 1)), none, none, some (zo_goto 4), none, none, some (zo_loadI 26 1), some (zo_ret1 0 0 0)]]
noncomputable def mX5_tiredOfAll : zM := (yX5_tiredOfAll, cX5_tiredOfAll, 3, (some .int), 0, 0, kX5_tiredOfAll)
noncomputable def kX6_add : zCode := [[some (zo_loadA 1 0), some (zo_get 4 6 1), none, none, some (zo_push 5 (.inl ((.ofNat 4, .ofNat 4), none))), some (zo_add 6), some (zo_push 8 (.inl ((.ofNat 80, .ofNat 80), none))), none, some (zo_ic zc_le 13 11), none, none, none, none, some (zo_push 15 (.inl ((.ofNat 24, .ofNat 24), none))), none, some (zo_stI 16 2)],
  [some (zo_loadI 17 2), some (zo_if zd_lt 52 20), none, none, some (zo_loadA 21 0), some (zo_get 24 6 0), none, none, some (zo_loadA 25 0), some (zo_get 28 6 1), none, none, some (zo_loadI 29 1), some (zo_loadI 30 2), some (zo_i2 31 zi_ushr), some (zo_push 34 (.inl ((.ofNat 255, .ofNat 255), none)))],
  [none, none, some (zo_i2 35 zi_and), some (zo_ast 36 0), some (zo_loadA 37 0), some (zo_dup 38), some (zo_get 41 6 1), none, none, some (zo_push 42 (.inl ((.ofNat 1, .ofNat 1), none))), some (zo_add 43), some (zo_put 46 6 1 0), none, none, some (zo_inc 49 2 (.negSucc 7)), none],
  [none, some (zo_goto 16), none, none, some (zo_loadA 53 0), some (zo_get 56 6 1), none, none, some (zo_ret1 0 0 0)]]
noncomputable def mX6_add : zM := (yX6_add, cX6_add, 3, (some .int), 0, 0, kX6_add)
noncomputable def kX6_cut : zCode := [[some (zo_loadI 1 1), some (zo_if zd_lt 12 4), none, none, some (zo_loadI 5 1), some (zo_loadA 6 0), some (zo_get 9 6 1), none, none, some (zo_ic zc_le 14 12), none, none, some (zo_push 13 (.inl ((.ofNat 0, .ofNat 0), none))), some (zo_ret1 0 0 2), some (zo_loadA 15 0), some (zo_loadI 16 1)],
  [some (zo_put 19 6 1 0), none, none, some (zo_push 20 (.inl ((.ofNat 1, .ofNat 1), none))), some (zo_ret1 0 0 2)]]
noncomputable def mX6_cut : zM := (yX6_cut, cX6_cut, 2, (some .boolean), 0, 0, kX6_cut)
noncomputable def kX6_empty : zCode := [[some (zo_loadA 1 0), some (zo_push 2 (.inl ((.ofNat 0, .ofNat 0), none))), some (zo_put 5 6 1 0), none, none, some (zo_ret0 0 0)]]
noncomputable def mX6_empty : zM := (yX6_empty, cX6_empty, 1, none, 0, 0, kX6_empty)
noncomputable def kX6_init : zCode := [[some (zo_loadA 1 0), some (zo_objInit 4), none, none, some (zo_loadA 5 0), some (zo_push 7 (.inl ((.ofNat 80, .ofNat 80), none))), none, some (zo_newa 9 0 1 80 (.inl ((.ofNat 0, .ofNat 0), none))), none, some (zo_put 12 6 0 3), none, none, some (zo_ret0 1 80)]]
noncomputable def mX6_init : zM := (yX6_init, cX6_init, 1, none, 1, 80, kX6_init)
noncomputable def kX7_able : zCode := [[some (zo_loadI 1 1), some (zo_call 4 100 1 0 0 0 0 zrecv0), none, none, some (zo_if zd_ne 9 7), none, none, some (zo_push 8 (.inl ((.negSucc 0, .negSucc 0), none))), some (zo_ret1 0 0 0), some (zo_loadA 10 0), some (zo_get 13 7 9), none, none, some (zo_call 16 28 1 0 0 0 0 (zrecv 1)), none, none],
  [some (zo_push 17 (.inl ((.ofNat 0, .ofNat 0), none))), some (zo_stI 18 2), some (zo_push 19 (.inl ((.ofNat 0, .ofNat 0), none))), some (zo_stI 20 3), some (zo_loadI 21 3), some (zo_loadA 22 0), some (zo_get 25 7 1), none, none, some (zo_get 28 0 6), none, none, some (zo_ic zc_ge 71 31), none, none, none],
  [none, none, none, none, none, none, none, none, none, none, none, none, none, none, none, none],
  [none, none, none, none, none, none, none, none, none, none, none, none, none, none, none, none],
  [none, none, none, none, none, none, none, some (zo_loadI 72 2), some (zo_call 75 14 1 0 0 0 0 zrecv0), none, none, some (zo_ret1 0 0 0)]]
noncomputable def mX7_able : zM := (yX7_able, cX7_able, 5, (some .int), 0, 0, kX7_able)
noncomputable def kX7_again : zCode := [[some (zo_loadI 1 1), some (zo_if zd_lt 18 4), none, none, some (zo_loadI 5 1), some (zo_push 6 (.inl ((.ofNat 2, .ofNat 2), none))), some (zo_ic zc_ge 18 9), none, none, some (zo_loadA 10 0), some (zo_get 13 7 7), none, none, some (zo_loadI 14 1), some (zo_bald 15), some (zo_if zd_ne 20 18)],
  [none, none, some (zo_push 19 (.inl ((.ofNat 0, .ofNat 0), none))), some (zo_ret1 0 0 2), none, none, none, none, none, none, none, none, none, none, none, none],
  [none, none, none, none, none, none, none, none, none, none]]
noncomputable def mX7_again : zM := (yX7_again, cX7_again, 2, (some .boolean), 0, 0, kX7_again)
noncomputable def kX7_ask : zCode := [[some (zo_loadA 1 0), some (zo_call 4 110 1 0 0 0 0 (zrecv 7)), none, none, some (zo_loadA 5 0), some (zo_get 8 7 8), none, none, some (zo_call 11 60 1 0 0 0 0 (zrecv 4)), none, none, some (zo_if zd_ne 17 14), none, none, some (zo_push 16 (.inl ((.negSucc 1, .negSucc 1), none))), none],
  [some (zo_ret1 0 0 0), none, none, none, none, none, none, none, none, none, none, none, none, none, none, none],
  [none, none, none, none, none, none, none, none, none, none, none, none, none, none, none, none],
  [none, none, none, none, none, none, none, none, none, none, none, none, none, none, none, none],
  [none, none, none, none, none, none, none, none, none, none, none, none, none, none, none, none],
  [none, none, none, none, none, none]]
noncomputable def mX7_ask : zM := (yX7_ask, cX7_ask, 5, (some .int), 0, 0, kX7_ask)
noncomputable def kX7_away : zCode := [[some (zo_loadA 1 0), some (zo_push 2 (.inl ((.negSucc 0, .negSucc 0), none))), some (zo_call 5 111 2 0 0 0 0 (zrecv 7)), none, none, some (zo_push 6 (.inl ((.ofNat 0, .ofNat 0), none))), some (zo_stI 7 1), some (zo_loadI 8 1), some (zo_loadA 9 0), some (zo_get 12 7 1), none, none, some (zo_get 15 0 6), none, none, some (zo_ic zc_ge 41 18)],
  [none, none, none, none, none, none, none, none, none, none, none, none, none, none, none, none],
  [none, none, none, none, none, none, none, none, none, some (zo_loadA 42 0), some (zo_get 45 7 8), none, none, some (zo_call 48 56 1 0 0 0 0 (zrecv 4)), none, none],
  [some (zo_stL 49 1), some (zo_loadL 50 1), some (zo_push 53 (.inr (.inl (.ofNat 1152921504606846976, .ofNat 1152921504606846976)))), none, none, some (zo_lcmp 54), some (zo_if zd_lt 60 57), none, none, some (zo_push 59 (.inl ((.negSucc 1, .negSucc 1), none))), none, some (zo_ret1 0 0 0), none, none, none, none],
  [none, none, none, none, none, none, none, none, none, none, none, none, none, none, none, none],
  [none, none, none, none, none, none, none, none, none, none, none, none, none, none]]
noncomputable def mX7_away : zM := (yX7_away, cX7_away, 5, (some .int), 0, 0, kX7_away)
noncomputable def kX7_bare : zCode := [[some (zo_loadA 1 0), some (zo_push 2 (.inl ((.negSucc 0, .negSucc 0), none))), some (zo_call 5 111 2 0 0 0 0 (zrecv 7)), none, none, some (zo_loadA 6 0), some (zo_get 9 7 8), none, none, some (zo_call 12 56 1 0 0 0 0 (zrecv 4)), none, none, some (zo_pop2 13), some (zo_push 15 (.inl ((.ofNat 9, .ofNat 9), none))), none, some (zo_stI 16 1)],
  [some (zo_push 17 (.inl ((.ofNat 0, .ofNat 0), none))), some (zo_stI 18 2), some (zo_push 19 (.inl ((.ofNat 1, .ofNat 1), none))), some (zo_stI 20 3), some (zo_loadI 21 3), some (zo_loadA 22 0), some (zo_get 25 7 8), none, none, some (zo_get 28 4 13), none, none, some (zo_ic zc_gt 63 31), none, none, some (zo_loadA 32 0)],
  [some (zo_get 35 7 8), none, none, some (zo_loadI 36 3), some (zo_call 39 51 2 0 0 0 0 (zrecv 4)), none, none, some (zo_if zd_ne 57 42), none, none, some (zo_loadI 43 3), some (zo_call 46 14 1 0 0 0 0 zrecv0), none, none, some (zo_loadI 47 1), some (zo_ic zc_ge 57 50)],
  [none, none, some (zo_loadI 51 3), some (zo_call 54 14 1 0 0 0 0 zrecv0), none, none, some (zo_stI 55 1), some (zo_loadI 56 3), some (zo_stI 57 2), some (zo_inc 60 3 (.ofNat 1)), none, none, some (zo_goto 20), none, none, some (zo_loadI 64 2)],
  [some (zo_if zd_ne 70 67), none, none, none, none, none, some (zo_loadA 71 0), some (zo_get 74 7 9), none, none, some (zo_loadI 75 2), some (zo_i2l 76), some (zo_call 79 30 2 0 0 0 0 (zrecv 1)), none, none, some (zo_loadI 80 1)],
  [some (zo_ret1 0 0 0)]]
noncomputable def mX7_bare : zM := (yX7_bare, cX7_bare, 4, (some .int), 0, 0, kX7_bare)
noncomputable def kX7_chance : zCode := [[some (zo_loadI 1 1), some (zo_call 4 14 1 0 0 0 0 zrecv0), none, none, some (zo_stI 5 3), some (zo_push 6 (.inr (.inl (.ofNat 0, .ofNat 0)))), some (zo_stL 8 4), none, some (zo_push 9 (.inl ((.ofNat 0, .ofNat 0), none))), some (zo_stI 11 6), none, some (zo_loadI 13 6), none, some (zo_loadI 14 1), some (zo_ic zc_gt 74 17), none],
  [none, some (zo_loadI 19 6), none, some (zo_loadI 20 1), some (zo_push 21 (.inl ((.negSucc 0, .negSucc 0), none))), some (zo_i2 22 zi_xor), some (zo_i2 23 zi_and), some (zo_if zd_ne 68 26), none, none, some (zo_loadA 27 0), some (zo_get 30 7 8), none, none, some (zo_loadI 32 6), none],
  [some (zo_call 35 55 2 0 0 0 0 (zrecv 4)), none, none, some (zo_if zd_ne 68 38), none, none, none, none, none, none, none, none, none, none, none, none],
  [none, none, none, none, none, none, none, none, none, none, none, none, none, none, none, none],
  [none, none, none, none, some (zo_inc 71 6 (.ofNat 1)), none, none, some (zo_goto 11), none, none, some (zo_loadL 76 4), none, some (zo_ret1 0 0 1)]]
noncomputable def mX7_chance : zM := (yX7_chance, cX7_chance, 8, (some .long), 0, 0, kX7_chance)
noncomputable def kX7_changes : zCode := [[some (zo_push 1 (.inl ((.ofNat 0, .ofNat 0), none))), some (zo_stI 2 1), some (zo_push 3 (.inl ((.ofNat 0, .ofNat 0), none))), some (zo_stI 4 2), some (zo_push 5 (.inl ((.ofNat 0, .ofNat 0), none))), some (zo_stI 6 3), some (zo_push 7 (.inl ((.ofNat 1, .ofNat 1), none))), some (zo_stI 9 4), none, some (zo_loadI 11 4), none, some (zo_push 13 (.inl ((.ofNat 8, .ofNat 8), none))), none, some (zo_ic zc_ge 103 16), none, none],
  [some (zo_loadA 17 0), some (zo_get 20 7 2), none, none, some (zo_get 23 5 0), none, none, some (zo_loadI 25 4), none, some (zo_push 26 (.inl ((.ofNat 1, .ofNat 1), none))), some (zo_sub 27), some (zo_ald 28 0), some (zo_stI 30 5), none, some (zo_loadA 31 0), some (zo_get 34 7 2)],
  [none, none, some (zo_get 37 5 0), none, none, some (zo_loadI 39 4), none, some (zo_ald 40 0), some (zo_stI 42 6), none, some (zo_loadA 43 0), some (zo_get 46 7 1), none, none, some (zo_loadI 48 5), none],
  [some (zo_loadI 50 6), none, some (zo_call 53 18 3 0 0 0 0 (zrecv 0)), none, none, some (zo_if zd_eq 97 56), none, none, none, none, none, none, none, none, none, none],
  [none, none, none, none, none, none, none, none, none, none, none, none, none, none, none, none],
  [none, none, none, none, none, none, none, none, none, none, none, none, none, none, none, none],
  [none, some (zo_inc 100 4 (.ofNat 1)), none, none, some (zo_goto 9), none, none, some (zo_loadA 104 0), some (zo_get 107 7 9), none, none, some (zo_loadI 108 2), some (zo_i2l 109), some (zo_loadI 110 3), some (zo_i2l 111), some (zo_call 114 31 3 0 0 0 0 (zrecv 1))],
  [none, none, some (zo_loadI 115 1), some (zo_ret1 0 0 0)]]
noncomputable def mX7_changes : zM := (yX7_changes, cX7_changes, 8, (some .int), 0, 0, kX7_changes)
noncomputable def kX7_count : zCode := [[some (zo_loadI 1 1), some (zo_push 3 (.inl ((.ofNat 20, .ofNat 20), none))), none, some (zo_ic zc_lt 25 6), none, none, some (zo_loadI 7 1), some (zo_push 9 (.inl ((.ofNat 28, .ofNat 28), none))), none, some (zo_ic zc_ge 25 12), none, none, some (zo_loadA 13 0), some (zo_get 16 7 2), none, none],
  [some (zo_get 19 5 0), none, none, some (zo_loadI 20 1), some (zo_push 22 (.inl ((.ofNat 20, .ofNat 20), none))), none, some (zo_sub 23), some (zo_ald 24 0), some (zo_ret1 0 0 0), some (zo_loadI 26 1), some (zo_tab (.ofNat 0) [88, 96, 104, 112, 120, 128, 136, 144, 152, 157, 165, 173] 181), none, none, none, none, none],
  [none, none, none, none, none, none, none, none, none, none, none, none, none, none, none, none],
  [none, none, none, none, none, none, none, none, none, none, none, none, none, none, none, none],
  [none, none, none, none, none, none, none, none, none, none, none, none, none, none, none, none],
  [none, none, none, none, none, none, none, none, some (zo_loadA 89 0), some (zo_get 92 7 1), none, none, some (zo_get 95 0 7), none, none, some (zo_ret1 0 0 0)],
  [some (zo_loadA 97 0), some (zo_get 100 7 1), none, none, some (zo_get 103 0 8), none, none, some (zo_ret1 0 0 0), some (zo_loadA 105 0), some (zo_get 108 7 1), none, none, some (zo_get 111 0 6), none, none, some (zo_ret1 0 0 0)],
  [some (zo_loadA 113 0), some (zo_get 116 7 2), none, none, some (zo_get 119 5 2), none, none, some (zo_ret1 0 0 0), some (zo_loadA 121 0), some (zo_get 124 7 2), none, none, some (zo_get 127 5 3), none, none, some (zo_ret1 0 0 0)],
  [some (zo_loadA 129 0), some (zo_get 132 7 2), none, none, some (zo_get 135 5 4), none, none, some (zo_ret1 0 0 0), some (zo_loadA 137 0), some (zo_get 140 7 2), none, none, some (zo_get 143 5 5), none, none, some (zo_ret1 0 0 0)],
  [some (zo_loadA 145 0), some (zo_get 148 7 2), none, none, some (zo_call 151 65 1 0 0 0 0 (zrecv 5)), none, none, some (zo_ret1 0 0 0), some (zo_loadA 153 0), some (zo_get 156 7 13), none, none, some (zo_ret1 0 0 0), some (zo_loadA 158 0), some (zo_get 161 7 5), none],
  [none, some (zo_get 164 2 2), none, none, some (zo_ret1 0 0 0), some (zo_loadA 166 0), some (zo_get 169 7 9), none, none, some (zo_get 172 1 1), none, none, some (zo_ret1 0 0 0), some (zo_loadA 174 0), some (zo_get 177 7 0), none],
  [none, some (zo_get 180 6 1), none, none, some (zo_ret1 0 0 0), some (zo_push 183 (.inl ((.negSucc 99, .negSucc 99), none))), none, some (zo_ret1 0 0 0)]]
noncomputable def mX7_count : zM := (yX7_count, cX7_count, 2, (some .int), 0, 0, kX7_count)
noncomputable def kX7_draw : zCode := [[some (zo_loadA 1 0), some (zo_loadA 2 0), some (zo_get 5 7 15), none, none, some (zo_push 8 (.inl ((.ofNat 1103515245, .ofNat 1103515245), none))), none, none, some (zo_i2 9 zi_mul), some (zo_push 12 (.inl ((.ofNat 12345, .ofNat 12345), none))), none, none, some (zo_add 13), some (zo_put 16 7 15 0), none, none],
  [some (zo_loadI 17 1), some (zo_if zd_le 32 20), none, none, some (zo_loadA 21 0), some (zo_get 24 7 15), none, none, some (zo_push 26 (.inl ((.ofNat 16, .ofNat 16), none))), none, some (zo_i2 27 zi_ushr), some (zo_loadI 28 1), some (zo_i2d 29 zi_rem), some (zo_goto 33), none, none],
  [none, some (zo_ret1 0 0 0)]]
noncomputable def mX7_draw : zM := (yX7_draw, cX7_draw, 2, (some .int), 0, 0, kX7_draw)
noncomputable def kX7_drawAct : zCode := [[some (zo_loadA 1 0), some (zo_push 2 (.inl ((.ofNat 4, .ofNat 4), none))), some (zo_call 5 78 2 0 0 0 0 (zrecv 7)), none, none, some (zo_stI 6 1), some (zo_loadI 7 1), some (zo_push 8 (.inl ((.ofNat 2, .ofNat 2), none))), some (zo_ic zc_ge 25 11), none, none, some (zo_loadA 12 0), some (zo_get 15 7 1), none, none, some (zo_loadA 16 0)],
  [some (zo_get 19 7 4), none, none, some (zo_call 22 23 2 0 0 0 0 (zrecv 0)), none, none, some (zo_goto 98), none, none, some (zo_loadA 26 0), some (zo_get 29 7 1), none, none, some (zo_get 32 0 6), none, none],
  [some (zo_if zd_le 61 35), none, none, none, none, none, none, none, none, none, none, none, none, none, none, none],
  [none, none, none, none, none, none, none, none, none, none, none, none, none, some (zo_loadA 62 0), some (zo_get 65 7 1), none],
  [none, some (zo_get 68 0 6), none, none, some (zo_if zd_le 98 71), none, none, none, none, none, none, none, none, none, none, none],
  [none, none, none, none, none, none, none, none, none, none, none, none, none, none, none, none],
  [none, none, some (zo_ret0 0 0)]]
noncomputable def mX7_drawAct : zM := (yX7_drawAct, cX7_drawAct, 3, none, 0, 0, kX7_drawAct)
noncomputable def kX7_easiest : zCode := [[some (zo_loadA 1 0), some (zo_push 2 (.inl ((.negSucc 0, .negSucc 0), none))), some (zo_call 5 81 2 0 0 0 0 (zrecv 7)), none, none, some (zo_stL 6 1), some (zo_loadL 7 1), some (zo_push 10 (.inr (.inl (.ofNat 1152921504606846976, .ofNat 1152921504606846976)))), none, none, some (zo_lcmp 11), some (zo_if zd_lt 19 14), none, none, some (zo_push 16 (.inl ((.negSucc 1, .negSucc 1), none))), none],
  [some (zo_goto 24), none, none, none, none, none, none, none, some (zo_ret1 0 0 0)]]
noncomputable def mX7_easiest : zM := (yX7_easiest, cX7_easiest, 3, (some .int), 0, 0, kX7_easiest)
noncomputable def kX7_easiestWithout : zCode := [[some (zo_loadA 1 0), some (zo_loadI 2 1), some (zo_call 5 111 2 0 0 0 0 (zrecv 7)), none, none, some (zo_loadA 6 0), some (zo_call 9 114 1 0 0 0 0 (zrecv 7)), none, none, some (zo_loadA 10 0), some (zo_get 13 7 8), none, none, some (zo_call 16 56 1 0 0 0 0 (zrecv 4)), none, none],
  [some (zo_ret1 0 0 1)]]
noncomputable def mX7_easiestWithout : zM := (yX7_easiestWithout, cX7_easiestWithout, 2, (some .long), 0, 0, kX7_easiestWithout)
noncomputable def kX7_end : zCode := [[some (zo_loadA 1 0), some (zo_get 4 7 0), none, none, some (zo_loadI 5 1), some (zo_call 8 67 2 0 0 0 0 (zrecv 6)), none, none, some (zo_ret1 0 0 2)]]
noncomputable def mX7_end : zM := (yX7_end, cX7_end, 2, (some .boolean), 0, 0, kX7_end)
noncomputable def kX7_fairest : zCode := [[some (zo_loadA 1 0), some (zo_push 2 (.inl ((.negSucc 0, .negSucc 0), none))), some (zo_call 5 111 2 0 0 0 0 (zrecv 7)), none, none, some (zo_push 6 (.inl ((.ofNat 0, .ofNat 0), none))), some (zo_stI 7 1), some (zo_loadI 8 1), some (zo_loadA 9 0), some (zo_get 12 7 1), none, none, some (zo_get 15 0 6), none, none, some (zo_ic zc_ge 59 18)],
  [none, none, none, none, none, none, none, none, none, none, none, none, none, none, none, none],
  [none, none, none, none, none, none, none, none, none, none, none, none, none, none, none, none],
  [none, none, none, none, none, none, none, none, none, none, none, some (zo_loadA 60 0), some (zo_get 63 7 8), none, none, some (zo_call 66 57 1 0 0 0 0 (zrecv 4))],
  [none, none, some (zo_stL 67 1), some (zo_loadL 68 1), some (zo_push 71 (.inr (.inl (.ofNat 1152921504606846976, .ofNat 1152921504606846976)))), none, none, some (zo_lcmp 72), some (zo_if zd_lt 78 75), none, none, some (zo_push 77 (.inl ((.negSucc 1, .negSucc 1), none))), none, some (zo_ret1 0 0 0), none, none],
  [none, none, none, none, none, none, none, none, none, none, none, none, none, none, none, none],
  [none, none, none, none, none, none, none]]
noncomputable def mX7_fairest : zM := (yX7_fairest, cX7_fairest, 3, (some .int), 0, 0, kX7_fairest)
noncomputable def kX7_fewest : zCode := [[some (zo_loadA 1 0), some (zo_push 2 (.inl ((.negSucc 0, .negSucc 0), none))), some (zo_call 5 111 2 0 0 0 0 (zrecv 7)), none, none, some (zo_push 6 (.inl ((.ofNat 0, .ofNat 0), none))), some (zo_stI 7 1), some (zo_loadI 8 1), some (zo_loadA 9 0), some (zo_get 12 7 1), none, none, some (zo_get 15 0 6), none, none, some (zo_ic zc_ge 41 18)],
  [none, none, none, none, none, none, none, none, none, none, none, none, none, none, none, none],
  [none, none, none, none, none, none, none, none, none, some (zo_loadA 42 0), some (zo_get 45 7 8), none, none, some (zo_call 48 56 1 0 0 0 0 (zrecv 4)), none, none],
  [some (zo_stL 49 1), some (zo_loadL 50 1), some (zo_push 53 (.inr (.inl (.ofNat 1152921504606846976, .ofNat 1152921504606846976)))), none, none, some (zo_lcmp 54), some (zo_if zd_lt 60 57), none, none, some (zo_push 59 (.inl ((.negSucc 1, .negSucc 1), none))), none, some (zo_ret1 0 0 0), none, none, none, none],
  [none, none, none, none, none, none, none, none, none, none, none, none, none, none]]
noncomputable def mX7_fewest : zM := (yX7_fewest, cX7_fewest, 3, (some .int), 0, 0, kX7_fewest)
noncomputable def kX7_first : zCode := [[some (zo_loadI 1 1), some (zo_push 2 (.inl ((.ofNat 1, .ofNat 1), none))), some (zo_ic zc_lt 11 5), none, none, some (zo_loadI 6 1), some (zo_push 8 (.inl ((.ofNat 60, .ofNat 60), none))), none, some (zo_ic zc_le 13 11), none, none, some (zo_push 12 (.inl ((.negSucc 0, .negSucc 0), none))), some (zo_ret1 0 0 0), some (zo_loadA 14 0), some (zo_get 17 7 4), none],
  [none, some (zo_loadA 18 0), some (zo_get 21 7 2), none, none, some (zo_call 24 62 2 0 0 0 0 (zrecv 5)), none, none, some (zo_push 25 (.inl ((.ofNat 0, .ofNat 0), none))), some (zo_stI 26 2), some (zo_loadI 27 2), some (zo_loadI 28 1), some (zo_ic zc_ge 78 31), none, none, some (zo_loadA 32 0)],
  [some (zo_get 35 7 1), none, none, some (zo_loadA 36 0), some (zo_get 39 7 4), none, none, some (zo_call 42 23 2 0 0 0 0 (zrecv 0)), none, none, some (zo_loadA 43 0), some (zo_get 46 7 1), none, none, some (zo_get 49 0 10), none],
  [none, some (zo_if zd_eq 72 52), none, none, some (zo_loadA 53 0), some (zo_get 56 7 9), none, none, some (zo_loadA 57 0), some (zo_get 60 7 1), none, none, some (zo_get 63 0 10), none, none, some (zo_call 66 105 1 0 0 0 0 zrecv0)],
  [none, none, some (zo_i2l 67), some (zo_call 70 30 2 0 0 0 0 (zrecv 1)), none, none, some (zo_loadI 71 2), some (zo_ret1 0 0 0), none, none, none, none, none, none, none, none],
  [none]]
noncomputable def mX7_first : zM := (yX7_first, cX7_first, 3, (some .int), 0, 0, kX7_first)
noncomputable def kX7_fits : zCode := [[some (zo_loadA 1 0), some (zo_call 4 110 1 0 0 0 0 (zrecv 7)), none, none, some (zo_loadA 5 0), some (zo_call 8 134 1 0 0 0 0 (zrecv 7)), none, none, some (zo_ret1 0 0 0)]]
noncomputable def mX7_fits : zM := (yX7_fits, cX7_fits, 1, (some .int), 0, 0, kX7_fits)
noncomputable def kX7_forget : zCode := [[some (zo_loadA 1 0), some (zo_get 4 7 13), none, none, some (zo_stI 5 1), some (zo_loadA 6 0), some (zo_push 7 (.inl ((.ofNat 0, .ofNat 0), none))), some (zo_put 10 7 13 0), none, none, some (zo_loadI 11 1), some (zo_ret1 0 0 0)]]
noncomputable def mX7_forget : zM := (yX7_forget, cX7_forget, 2, (some .int), 0, 0, kX7_forget)
noncomputable def kX7_found : zCode := [[some (zo_loadI 1 1), some (zo_call 4 100 1 0 0 0 0 zrecv0), none, none, some (zo_if zd_eq 36 7), none, none, some (zo_loadA 8 0), some (zo_get 11 7 1), none, none, some (zo_loadI 12 2), some (zo_call 15 19 2 0 0 0 0 (zrecv 0)), none, none, some (zo_if zd_eq 36 18)],
  [none, none, none, none, none, none, none, none, none, none, none, none, none, none, none, none],
  [none, none, none, none, some (zo_push 37 (.inl ((.negSucc 0, .negSucc 0), none))), some (zo_ret1 0 0 0), none, none, none, none, none, none, none, none, none, none],
  [none, none, none, none, none, none, none, none, none, none, none, none, none, none, none, none],
  [none, none, none, none, none, none, none, none, none, none, none, none, none, none, none, none],
  [none, none, none]]
noncomputable def mX7_found : zM := (yX7_found, cX7_found, 4, (some .int), 0, 0, kX7_found)
noncomputable def kX7_gaps : zCode := [[some (zo_loadA 1 0), some (zo_get 4 7 1), none, none, some (zo_loadA 5 0), some (zo_get 8 7 2), none, none, some (zo_call 11 26 2 0 0 0 0 (zrecv 0)), none, none, some (zo_loadA 12 0), some (zo_get 15 7 9), none, none, some (zo_loadA 16 0)],
  [some (zo_get 19 7 1), none, none, some (zo_get 22 0 10), none, none, some (zo_call 25 14 1 0 0 0 0 zrecv0), none, none, some (zo_i2l 26), some (zo_loadA 27 0), some (zo_get 30 7 1), none, none, some (zo_get 33 0 11), none],
  [none, some (zo_i2l 34), some (zo_call 37 31 3 0 0 0 0 (zrecv 1)), none, none, some (zo_loadA 38 0), some (zo_get 41 7 1), none, none, some (zo_get 44 0 10), none, none, some (zo_ret1 0 0 0)]]
noncomputable def mX7_gaps : zM := (yX7_gaps, cX7_gaps, 1, (some .int), 0, 0, kX7_gaps)
noncomputable def kX7_gapsByTrade : zCode := [[some (zo_loadA 1 0), some (zo_get 4 7 4), none, none, some (zo_get 7 5 0), none, none, some (zo_loadI 8 1), some (zo_ald 9 0), some (zo_stI 10 3), some (zo_loadA 11 0), some (zo_get 14 7 4), none, none, some (zo_get 17 5 0), none],
  [none, some (zo_loadI 18 2), some (zo_ald 19 0), some (zo_stI 21 4), none, some (zo_loadA 22 0), some (zo_get 25 7 4), none, none, some (zo_get 28 5 0), none, none, some (zo_loadI 29 1), some (zo_loadI 31 4), none, some (zo_ast 32 0)],
  [some (zo_loadA 33 0), some (zo_get 36 7 4), none, none, some (zo_get 39 5 0), none, none, some (zo_loadI 40 2), some (zo_loadI 41 3), some (zo_ast 42 0), some (zo_loadA 43 0), some (zo_get 46 7 1), none, none, some (zo_loadA 47 0), some (zo_get 50 7 4)],
  [none, none, some (zo_call 53 26 2 0 0 0 0 (zrecv 0)), none, none, some (zo_loadA 54 0), some (zo_get 57 7 4), none, none, some (zo_get 60 5 0), none, none, some (zo_loadI 61 1), some (zo_loadI 62 3), some (zo_ast 63 0), some (zo_loadA 64 0)],
  [some (zo_get 67 7 4), none, none, some (zo_get 70 5 0), none, none, some (zo_loadI 71 2), some (zo_loadI 73 4), none, some (zo_ast 74 0), some (zo_loadA 75 0), some (zo_get 78 7 1), none, none, some (zo_get 81 0 10), none],
  [none, some (zo_call 84 14 1 0 0 0 0 zrecv0), none, none, some (zo_ret1 0 0 0)]]
noncomputable def mX7_gapsByTrade : zM := (yX7_gapsByTrade, cX7_gapsByTrade, 5, (some .int), 0, 0, kX7_gapsByTrade)
noncomputable def kX7_give : zCode := [[some (zo_loadI 1 1), some (zo_call 4 100 1 0 0 0 0 zrecv0), none, none, some (zo_if zd_eq 18 7), none, none, some (zo_loadA 8 0), some (zo_get 11 7 1), none, none, some (zo_loadI 12 2), some (zo_call 15 22 2 0 0 0 0 (zrecv 0)), none, none, some (zo_if zd_ne 21 18)],
  [none, none, some (zo_push 20 (.inl ((.negSucc 1, .negSucc 1), none))), none, some (zo_ret1 0 0 0), some (zo_loadA 22 0), some (zo_get 25 7 5), none, none, some (zo_loadA 26 0), some (zo_get 29 7 2), none, none, some (zo_call 32 34 2 0 0 0 0 (zrecv 2)), none, none],
  [some (zo_loadA 33 0), some (zo_get 36 7 2), none, none, some (zo_get 39 5 0), none, none, some (zo_loadI 40 1), some (zo_ald 41 0), some (zo_stI 42 3), some (zo_loadA 43 0), some (zo_get 46 7 2), none, none, some (zo_get 49 5 0), none],
  [none, some (zo_loadI 50 1), some (zo_loadI 51 2), some (zo_ast 52 0), some (zo_loadI 53 3), some (zo_ret1 0 0 0)]]
noncomputable def mX7_give : zM := (yX7_give, cX7_give, 4, (some .int), 0, 0, kX7_give)
noncomputable def kX7_greatestShared : zCode := [[some (zo_push 1 (.inl ((.ofNat 0, .ofNat 0), none))), some (zo_stI 3 4), none, some (zo_loadI 5 4), none, some (zo_push 8 (.inl ((.ofNat 128, .ofNat 128), none))), none, none, some (zo_ic zc_ge 33 11), none, none, some (zo_loadL 12 2), some (zo_push 13 (.inr (.inl (.ofNat 0, .ofNat 0)))), some (zo_lcmp 14), some (zo_if zd_eq 33 17), none],
  [none, some (zo_loadL 18 0), some (zo_loadL 19 2), some (zo_l2d 20 zl_rem), some (zo_stL 22 5), none, some (zo_loadL 23 2), some (zo_stL 24 0), some (zo_loadL 26 5), none, some (zo_stL 27 2), some (zo_inc 30 4 (.ofNat 1)), none, none, some (zo_goto 3), none],
  [none, some (zo_loadL 34 0), some (zo_ret1 0 0 1)]]
noncomputable def mX7_greatestShared : zM := (yX7_greatestShared, cX7_greatestShared, 7, (some .long), 0, 0, kX7_greatestShared)
noncomputable def kX7_hard : zCode := [[some (zo_loadA 1 0), some (zo_get 4 7 1), none, none, some (zo_loadI 5 1), some (zo_call 8 19 2 0 0 0 0 (zrecv 0)), none, none, some (zo_if zd_eq 18 11), none, none, none, none, none, none, none],
  [none, none, some (zo_push 19 (.inl ((.negSucc 0, .negSucc 0), none))), some (zo_ret1 0 0 0), none, none, none, none, none, none, none]]
noncomputable def mX7_hard : zM := (yX7_hard, cX7_hard, 3, (some .int), 0, 0, kX7_hard)
noncomputable def kX7_hardOfRota : zCode := [[some (zo_push 1 (.inl ((.ofNat 0, .ofNat 0), none))), some (zo_stI 2 2), some (zo_push 3 (.inl ((.ofNat 0, .ofNat 0), none))), some (zo_stI 4 3), some (zo_loadI 5 3), some (zo_loadA 6 0), some (zo_get 9 7 1), none, none, some (zo_get 12 0 7), none, none, some (zo_ic zc_ge 66 15), none, none, some (zo_loadA 16 0)],
  [some (zo_get 19 7 2), none, none, some (zo_get 22 5 0), none, none, some (zo_loadI 23 3), some (zo_ald 24 0), some (zo_stI 26 4), none, some (zo_loadI 27 2), some (zo_loadA 28 0), some (zo_get 31 7 1), none, none, some (zo_loadI 33 4)],
  [none, some (zo_call 36 19 2 0 0 0 0 (zrecv 0)), none, none, some (zo_if zd_eq 57 39), none, none, none, none, none, none, none, none, none, none, none],
  [none, none, none, none, none, none, none, none, none, some (zo_push 58 (.inl ((.ofNat 0, .ofNat 0), none))), some (zo_add 59), some (zo_stI 60 2), some (zo_inc 63 3 (.ofNat 1)), none, none, some (zo_goto 4)],
  [none, none, some (zo_loadI 67 2), some (zo_ret1 0 0 0)]]
noncomputable def mX7_hardOfRota : zM := (yX7_hardOfRota, cX7_hardOfRota, 5, (some .int), 0, 0, kX7_hardOfRota)
noncomputable def kX7_held : zCode := [[some (zo_loadI 1 1), some (zo_if zd_lt 10 4), none, none, some (zo_loadI 5 1), some (zo_push 7 (.inl ((.ofNat 10, .ofNat 10), none))), none, some (zo_ic zc_le 12 10), none, none, some (zo_push 11 (.inl ((.negSucc 0, .negSucc 0), none))), some (zo_ret1 0 0 0), some (zo_loadA 13 0), some (zo_push 14 (.inl ((.negSucc 0, .negSucc 0), none))), some (zo_call 17 111 2 0 0 0 0 (zrecv 7)), none],
  [none, some (zo_loadA 18 0), some (zo_get 21 7 8), none, none, some (zo_call 24 52 1 0 0 0 0 (zrecv 4)), none, none, some (zo_loadA 25 0), some (zo_loadA 26 0), some (zo_loadA 27 0), some (zo_call 30 139 1 0 0 0 0 (zrecv 7)), none, none, some (zo_loadI 31 1), some (zo_call 34 75 3 0 0 0 0 (zrecv 7))],
  [none, none, some (zo_push 36 (.inl ((.ofNat 10, .ofNat 10), none))), none, some (zo_loadA 37 0), some (zo_call 40 139 1 0 0 0 0 (zrecv 7)), none, none, some (zo_call 43 14 1 0 0 0 0 zrecv0), none, none, some (zo_call 46 113 2 0 0 0 0 zrecv0), none, none, some (zo_call 49 133 3 0 0 0 0 (zrecv 7)), none],
  [none, some (zo_push 50 (.inl ((.ofNat 0, .ofNat 0), none))), some (zo_ret1 0 0 0)]]
noncomputable def mX7_held : zM := (yX7_held, cX7_held, 2, (some .int), 0, 0, kX7_held)
noncomputable def kX7_ill : zCode := [[some (zo_loadA 1 0), some (zo_get 4 7 1), none, none, some (zo_loadI 5 1), some (zo_call 8 19 2 0 0 0 0 (zrecv 0)), none, none, some (zo_if zd_ne 13 11), none, none, some (zo_push 12 (.inl ((.negSucc 0, .negSucc 0), none))), some (zo_ret1 0 0 0), none, none, none],
  [none, none, none, none, none, none, none, none, none, none, none, none, none, none, none, none],
  [none, none, none, none, none, none, none, none, none, none, none]]
noncomputable def mX7_ill : zM := (yX7_ill, cX7_ill, 2, (some .int), 0, 0, kX7_ill)
noncomputable def kX7_init : zCode := [[some (zo_loadA 1 0), some (zo_objInit 4), none, none, some (zo_loadA 5 0), some (zo_new 8 6 2 93 4615 zfsX6), none, none, some (zo_dup 9), some (zo_call 12 69 1 1 80 93 4615 zrecvI), none, none, some (zo_put 15 7 0 3), none, none, some (zo_loadA 16 0)],
  [some (zo_new 19 0 12 93 4615 zfsX0), none, none, some (zo_dup 20), some (zo_call 23 20 1 11 181 93 4615 zrecvI), none, none, some (zo_put 26 7 1 3), none, none, some (zo_loadA 27 0), some (zo_new 30 5 6 93 4615 zfsX5), none, none, some (zo_dup 31), some (zo_call 34 63 1 2 16 93 4615 zrecvI)],
  [none, none, some (zo_put 37 7 2 3), none, none, some (zo_loadA 38 0), some (zo_new 41 5 6 93 4615 zfsX5), none, none, some (zo_dup 42), some (zo_call 45 63 1 2 16 93 4615 zrecvI), none, none, some (zo_put 48 7 3 3), none, none],
  [some (zo_loadA 49 0), some (zo_new 52 5 6 93 4615 zfsX5), none, none, some (zo_dup 53), some (zo_call 56 63 1 2 16 93 4615 zrecvI), none, none, some (zo_put 59 7 4 3), none, none, some (zo_loadA 60 0), some (zo_new 63 2 3 93 4615 zfsX2), none, none, some (zo_dup 64)],
  [some (zo_call 67 32 1 37 276 93 4615 zrecvI), none, none, some (zo_put 70 7 5 3), none, none, some (zo_loadA 71 0), some (zo_push 72 (.inl ((.ofNat 2, .ofNat 2), none))), some (zo_newa 75 9 93 4615 (.inr (.inr (.inr (.inl false))))), none, none, some (zo_put 78 7 6 3), none, none, some (zo_loadA 79 0), some (zo_push 80 (.inl ((.ofNat 2, .ofNat 2), none)))],
  [some (zo_newa 82 2 93 4615 (.inl ((.ofNat 0, .ofNat 0), none))), none, some (zo_put 85 7 7 3), none, none, some (zo_loadA 86 0), some (zo_new 89 4 15 93 4615 zfsX4), none, none, some (zo_dup 90), some (zo_call 93 54 1 13 3752 93 4615 zrecvI), none, none, some (zo_put 96 7 8 3), none, none],
  [some (zo_loadA 97 0), some (zo_new 100 1 2 93 4615 zfsX1), none, none, some (zo_dup 101), some (zo_call 104 29 1 1 8 93 4615 zrecvI), none, none, some (zo_put 107 7 9 3), none, none, some (zo_loadA 108 0), some (zo_push 110 (.inl ((.ofNat 12, .ofNat 12), none))), none, some (zo_newa 112 0 93 4615 (.inl ((.ofNat 0, .ofNat 0), none))), none],
  [some (zo_put 115 7 10 3), none, none, some (zo_loadA 116 0), some (zo_push 118 (.inl ((.ofNat 12, .ofNat 12), none))), none, some (zo_newa 120 0 93 4615 (.inl ((.ofNat 0, .ofNat 0), none))), none, some (zo_put 123 7 11 3), none, none, some (zo_loadA 124 0), some (zo_push 126 (.inl ((.ofNat 12, .ofNat 12), none))), none, some (zo_newa 128 0 93 4615 (.inl ((.ofNat 0, .ofNat 0), none))), none],
  [some (zo_put 131 7 12 3), none, none, some (zo_loadA 132 0), some (zo_new 135 3 9 93 4615 zfsX3), none, none, some (zo_dup 136), some (zo_call 139 40 1 4 125 93 4615 zrecvI), none, none, some (zo_put 142 7 14 3), none, none, some (zo_push 143 (.inl ((.ofNat 0, .ofNat 0), none))), some (zo_stI 144 1)],
  [some (zo_loadI 145 1), some (zo_push 146 (.inl ((.ofNat 2, .ofNat 2), none))), some (zo_ic zc_ge 168 149), none, none, some (zo_loadA 150 0), some (zo_get 153 7 6), none, none, some (zo_loadI 154 1), some (zo_new 157 5 6 93 4615 zfsX5), none, none, some (zo_dup 158), some (zo_call 161 63 1 2 16 93 4615 zrecvI), none],
  [none, some (zo_aast 162), some (zo_inc 165 1 (.ofNat 1)), none, none, some (zo_goto 144), none, none, some (zo_ret0 93 4615)]]
noncomputable def mX7_init : zM := (yX7_init, cX7_init, 2, none, 93, 4615, kX7_init)
noncomputable def kX7_isAtRest : zCode := [[some (zo_loadI 1 0), some (zo_loadI 2 1), some (zo_ic zc_lt 11 5), none, none, some (zo_loadI 6 2), some (zo_loadI 7 1), some (zo_sub 8), some (zo_goto 12), none, none, some (zo_push 12 (.inl ((.ofNat 0, .ofNat 0), none))), some (zo_stI 14 4), none, some (zo_loadI 15 1), some (zo_loadI 16 0)],
  [some (zo_ic zc_le 25 19), none, none, some (zo_loadI 20 3), some (zo_loadI 21 0), some (zo_sub 22), some (zo_goto 26), none, none, some (zo_push 26 (.inl ((.ofNat 0, .ofNat 0), none))), some (zo_stI 28 5), none, some (zo_push 29 (.inl ((.ofNat 0, .ofNat 0), none))), some (zo_stI 31 6), none, some (zo_loadI 33 6)],
  [none, some (zo_push 35 (.inl ((.ofNat 10, .ofNat 10), none))), none, some (zo_ic zc_ge 82 38), none, none, some (zo_loadI 40 6), none, some (zo_loadI 41 1), some (zo_ic zc_lt 50 44), none, none, some (zo_loadI 45 2), some (zo_loadI 46 1), some (zo_sub 47), some (zo_goto 51)],
  [none, none, some (zo_push 51 (.inl ((.ofNat 0, .ofNat 0), none))), some (zo_loadI 53 4), none, some (zo_ic zc_gt 74 56), none, none, some (zo_loadI 58 6), none, some (zo_loadI 59 0), some (zo_ic zc_le 68 62), none, none, some (zo_loadI 63 3), some (zo_loadI 64 0)],
  [some (zo_sub 65), some (zo_goto 69), none, none, some (zo_push 69 (.inl ((.ofNat 0, .ofNat 0), none))), some (zo_loadI 71 5), none, some (zo_ic zc_le 76 74), none, none, some (zo_push 75 (.inl ((.ofNat 0, .ofNat 0), none))), some (zo_ret1 0 0 2), some (zo_inc 79 6 (.ofNat 1)), none, none, some (zo_goto 31)],
  [none, none, some (zo_push 83 (.inl ((.ofNat 1, .ofNat 1), none))), some (zo_ret1 0 0 2)]]
noncomputable def mX7_isAtRest : zM := (yX7_isAtRest, cX7_isAtRest, 7, (some .boolean), 0, 0, kX7_isAtRest)
noncomputable def kX7_isDigit : zCode := [[some (zo_loadI 1 0), some (zo_push 3 (.inl ((.ofNat 48, .ofNat 48), none))), none, some (zo_ic zc_lt 16 6), none, none, some (zo_loadI 7 0), some (zo_push 9 (.inl ((.ofNat 57, .ofNat 57), none))), none, some (zo_ic zc_gt 16 12), none, none, some (zo_push 13 (.inl ((.ofNat 1, .ofNat 1), none))), some (zo_goto 17), none, none],
  [some (zo_push 17 (.inl ((.ofNat 0, .ofNat 0), none))), some (zo_ret1 0 0 2)]]
noncomputable def mX7_isDigit : zM := (yX7_isDigit, cX7_isDigit, 1, (some .boolean), 0, 0, kX7_isDigit)
noncomputable def kX7_isHour : zCode := [[some (zo_loadI 1 0), some (zo_if zd_lt 14 4), none, none, some (zo_loadI 5 0), some (zo_push 7 (.inl ((.ofNat 8, .ofNat 8), none))), none, some (zo_ic zc_ge 14 10), none, none, some (zo_push 11 (.inl ((.ofNat 1, .ofNat 1), none))), some (zo_goto 15), none, none, some (zo_push 15 (.inl ((.ofNat 0, .ofNat 0), none))), some (zo_ret1 0 0 2)]]
noncomputable def mX7_isHour : zM := (yX7_isHour, cX7_isHour, 1, (some .boolean), 0, 0, kX7_isHour)
noncomputable def kX7_keep : zCode := [[some (zo_loadI 1 1), some (zo_if zd_lt 9 4), none, none, some (zo_loadI 5 1), some (zo_push 6 (.inl ((.ofNat 2, .ofNat 2), none))), some (zo_ic zc_lt 11 9), none, none, some (zo_push 10 (.inl ((.ofNat 0, .ofNat 0), none))), some (zo_ret1 0 0 2), some (zo_loadA 12 0), some (zo_get 15 7 6), none, none, some (zo_loadI 16 1)],
  [some (zo_aald 17), some (zo_loadA 18 0), some (zo_get 21 7 2), none, none, some (zo_call 24 62 2 0 0 0 0 (zrecv 5)), none, none, some (zo_loadA 25 0), some (zo_get 28 7 7), none, none, some (zo_loadI 29 1), some (zo_push 30 (.inl ((.ofNat 1, .ofNat 1), none))), some (zo_bast 31), some (zo_push 32 (.inl ((.ofNat 1, .ofNat 1), none)))],
  [some (zo_ret1 0 0 2)]]
noncomputable def mX7_keep : zM := (yX7_keep, cX7_keep, 2, (some .boolean), 0, 0, kX7_keep)
noncomputable def kX7_keystone : zCode := [[some (zo_loadI 1 1), some (zo_if zd_lt 10 4), none, none, some (zo_loadI 5 1), some (zo_push 7 (.inl ((.ofNat 10, .ofNat 10), none))), none, some (zo_ic zc_le 12 10), none, none, some (zo_push 11 (.inl ((.negSucc 0, .negSucc 0), none))), some (zo_ret1 0 0 0), some (zo_loadA 13 0), some (zo_call 16 139 1 0 0 0 0 (zrecv 7)), none, none],
  [some (zo_stI 17 2), some (zo_loadI 18 2), some (zo_if zd_ne 24 21), none, none, some (zo_push 23 (.inl ((.negSucc 1, .negSucc 1), none))), none, some (zo_ret1 0 0 0), none, none, none, none, none, none, none, none],
  [none, none, none, none, none, none, none, none, none, none, none, none, none, none, none, none],
  [none, none, none, none, none, none, none, none, none, none, none, none, none, none, none, none],
  [none, none, none, none, none, none, none, none, none, none, none, none, none, none, none, none],
  [none, none, none, none, none, none, none, none, none, none, none, none, none, none, none, none],
  [none, none, none, none, none, none, none, none, none, none, none, none, none, none, none, none],
  [none, none, none, none, none, none, none, none, none, none, none, none, none, none, none, none]]
noncomputable def mX7_keystone : zM := (yX7_keystone, cX7_keystone, 9, (some .int), 0, 0, kX7_keystone)
noncomputable def kX7_later : zCode := [[some (zo_loadI 1 1), some (zo_if zd_lt 10 4), none, none, some (zo_loadI 5 1), some (zo_push 7 (.inl ((.ofNat 60, .ofNat 60), none))), none, some (zo_ic zc_le 12 10), none, none, some (zo_push 11 (.inl ((.negSucc 0, .negSucc 0), none))), some (zo_ret1 0 0 0), some (zo_loadA 13 0), some (zo_get 16 7 4), none, none],
  [some (zo_loadA 17 0), some (zo_get 20 7 2), none, none, some (zo_call 23 62 2 0 0 0 0 (zrecv 5)), none, none, some (zo_loadA 24 0), some (zo_get 27 7 1), none, none, some (zo_loadA 28 0), some (zo_get 31 7 4), none, none, some (zo_loadI 32 1)],
  [some (zo_call 35 24 3 0 0 0 0 (zrecv 0)), none, none, some (zo_loadA 36 0), some (zo_get 39 7 9), none, none, some (zo_loadA 40 0), some (zo_get 43 7 4), none, none, some (zo_call 46 65 1 0 0 0 0 (zrecv 5)), none, none, some (zo_i2l 47), some (zo_loadA 48 0)],
  [some (zo_get 51 7 4), none, none, some (zo_call 54 64 1 0 0 0 0 (zrecv 5)), none, none, some (zo_i2l 55), some (zo_call 58 31 3 0 0 0 0 (zrecv 1)), none, none, some (zo_loadA 59 0), some (zo_get 62 7 4), none, none, some (zo_get 65 5 4), none],
  [none, some (zo_loadA 66 0), some (zo_get 69 7 2), none, none, some (zo_get 72 5 4), none, none, some (zo_sub 73), some (zo_ret1 0 0 0)]]
noncomputable def mX7_later : zM := (yX7_later, cX7_later, 2, (some .int), 0, 0, kX7_later)
noncomputable def kX7_law : zCode := [[some (zo_loadA 1 0), some (zo_call 4 116 1 0 0 0 0 (zrecv 7)), none, none, some (zo_stI 5 1), some (zo_loadI 6 1), some (zo_push 7 (.inl ((.negSucc 0, .negSucc 0), none))), some (zo_ic zeqn 16 10), none, none, none, none, none, none, none, none],
  [some (zo_loadA 17 0), some (zo_loadA 18 0), some (zo_get 21 7 14), none, none, some (zo_call 24 94 2 0 0 0 0 (zrecv 7)), none, none, some (zo_stI 25 2), some (zo_loadA 26 0), some (zo_loadA 27 0), some (zo_get 30 7 1), none, none, some (zo_get 33 0 9), none],
  [none, some (zo_call 36 94 2 0 0 0 0 (zrecv 7)), none, none, some (zo_stI 37 3), some (zo_loadA 38 0), some (zo_get 41 7 9), none, none, some (zo_loadI 42 2), some (zo_i2l 43), some (zo_loadI 44 3), some (zo_i2l 45), some (zo_call 48 31 3 0 0 0 0 (zrecv 1)), none, none],
  [some (zo_loadI 49 2), some (zo_loadI 50 3), some (zo_sub 51), some (zo_ret1 0 0 0)]]
noncomputable def mX7_law : zM := (yX7_law, cX7_law, 4, (some .int), 0, 0, kX7_law)
noncomputable def kX7_lowest : zCode := [[some (zo_loadI 1 0), some (zo_loadI 2 0), some (zo_i1 3 zi_neg), some (zo_i2 4 zi_and), some (zo_push 5 (.inl ((.ofNat 1, .ofNat 1), none))), some (zo_sub 6), some (zo_call 9 14 1 0 0 0 0 zrecv0), none, none, some (zo_ret1 0 0 0)]]
noncomputable def mX7_lowest : zM := (yX7_lowest, cX7_lowest, 1, (some .int), 0, 0, kX7_lowest)
noncomputable def kX7_meets : zCode := [[some (zo_loadA 1 0), some (zo_get 4 7 1), none, none, some (zo_loadI 5 1), some (zo_loadI 6 2), some (zo_call 9 18 3 0 0 0 0 (zrecv 0)), none, none, some (zo_if zd_eq 23 12), none, none, none, none, none, none],
  [none, none, none, none, none, none, none, some (zo_push 24 (.inl ((.negSucc 0, .negSucc 0), none))), some (zo_ret1 0 0 0), none, none, none, none, none, none, none],
  [none, none, none, none, none, none, none, none, none, none, none, none, none, none, none, none],
  [none, none, none, none, none, none, none, none, none, none, none, none, none, none, none, none],
  [none, none, none, none, none, none, none, none, none, none, none, none, none, none, none, none],
  [none, none, none, none, none, none, none, none, none, none, none, none, none, none, none, none],
  [none, none, none, none, none, none, none, none, none, none, none, none, none, none, none, none],
  [none, none, none, none, none, none, none, none, none, none, none, none, none, none, none, none]]
noncomputable def mX7_meets : zM := (yX7_meets, cX7_meets, 7, (some .int), 0, 0, kX7_meets)
noncomputable def kX7_mended : zCode := [[some (zo_loadA 1 0), some (zo_get 4 7 1), none, none, some (zo_loadI 5 1), some (zo_call 8 19 2 0 0 0 0 (zrecv 0)), none, none, some (zo_if zd_ne 13 11), none, none, some (zo_push 12 (.inl ((.negSucc 0, .negSucc 0), none))), some (zo_ret1 0 0 0), none, none, none],
  [none, none, none, none, none, none, none, none, none, none, none, none, none, none, none, none],
  [none, none, none, none, none, none, none, none, none, none, none, none, none, none, none, none],
  [none]]
noncomputable def mX7_mended : zM := (yX7_mended, cX7_mended, 4, (some .int), 0, 0, kX7_mended)
noncomputable def kX7_missed : zCode := [[some (zo_loadA 1 0), some (zo_get 4 7 1), none, none, some (zo_loadI 5 1), some (zo_call 8 19 2 0 0 0 0 (zrecv 0)), none, none, some (zo_if zd_ne 13 11), none, none, some (zo_push 12 (.inl ((.negSucc 0, .negSucc 0), none))), some (zo_ret1 0 0 0), none, none, none],
  [none, none, none, none, none, none, none, none, none, none, none, none, none, none, none, none],
  [none, none, none, none, none, none, none, none, none, none, none, none, none, none, none, none],
  [none, none, none, none, none, none, none, none, none]]
noncomputable def mX7_missed : zM := (yX7_missed, cX7_missed, 6, (some .int), 0, 0, kX7_missed)
noncomputable def kX7_nights : zCode := [[some (zo_loadI 1 1), some (zo_if zd_lt 10 4), none, none, some (zo_loadI 5 1), some (zo_push 7 (.inl ((.ofNat 30, .ofNat 30), none))), none, some (zo_ic zc_le 12 10), none, none, some (zo_push 11 (.inl ((.negSucc 0, .negSucc 0), none))), some (zo_ret1 0 0 0), some (zo_loadI 13 1), some (zo_if zd_le 27 16), none, none],
  [some (zo_loadA 17 0), some (zo_get 20 7 5), none, none, some (zo_loadA 21 0), some (zo_get 24 7 2), none, none, some (zo_call 27 34 2 0 0 0 0 (zrecv 2)), none, none, some (zo_loadA 28 0), some (zo_get 31 7 2), none, none, some (zo_get 34 5 4)],
  [none, none, some (zo_stI 35 2), some (zo_loadA 36 0), some (zo_get 39 7 2), none, none, some (zo_get 42 5 5), none, none, some (zo_stI 43 3), some (zo_loadA 44 0), some (zo_get 47 7 1), none, none, some (zo_loadA 48 0)],
  [some (zo_get 51 7 2), none, none, some (zo_loadI 52 1), some (zo_call 55 24 3 0 0 0 0 (zrecv 0)), none, none, some (zo_loadA 56 0), some (zo_get 59 7 9), none, none, some (zo_loadA 60 0), some (zo_get 63 7 2), none, none, some (zo_get 66 5 5)],
  [none, none, some (zo_loadI 67 3), some (zo_sub 68), some (zo_i2l 69), some (zo_loadA 70 0), some (zo_get 73 7 2), none, none, some (zo_call 76 65 1 0 0 0 0 (zrecv 5)), none, none, some (zo_i2l 77), some (zo_call 80 31 3 0 0 0 0 (zrecv 1)), none, none],
  [some (zo_loadA 81 0), some (zo_get 84 7 2), none, none, some (zo_get 87 5 4), none, none, some (zo_loadI 88 2), some (zo_sub 89), some (zo_ret1 0 0 0)]]
noncomputable def mX7_nights : zM := (yX7_nights, cX7_nights, 4, (some .int), 0, 0, kX7_nights)
noncomputable def kX7_openFitting : zCode := [[some (zo_loadA 1 0), some (zo_push 2 (.inl ((.negSucc 0, .negSucc 0), none))), some (zo_call 5 111 2 0 0 0 0 (zrecv 7)), none, none, some (zo_push 6 (.inl ((.ofNat 0, .ofNat 0), none))), some (zo_stI 7 1), some (zo_loadI 8 1), some (zo_loadA 9 0), some (zo_get 12 7 13), none, none, some (zo_ic zc_ge 72 15), none, none, none],
  [none, none, none, none, none, none, none, none, none, none, none, none, none, none, none, none],
  [none, none, none, none, none, none, none, none, none, none, none, none, none, none, none, none],
  [none, none, none, none, none, none, none, none, none, none, none, none, none, none, none, none],
  [none, none, none, none, none, none, none, none, some (zo_ret0 0 0)]]
noncomputable def mX7_openFitting : zM := (yX7_openFitting, cX7_openFitting, 2, none, 0, 0, kX7_openFitting)
noncomputable def kX7_openSeats : zCode := [[some (zo_loadA 1 0), some (zo_get 4 7 8), none, none, some (zo_loadA 5 0), some (zo_get 8 7 1), none, none, some (zo_get 11 0 7), none, none, some (zo_call 14 58 2 0 0 0 0 (zrecv 4)), none, none, some (zo_push 15 (.inl ((.ofNat 0, .ofNat 0), none))), some (zo_stI 16 2)],
  [some (zo_loadI 17 2), some (zo_loadA 18 0), some (zo_get 21 7 1), none, none, some (zo_get 24 0 6), none, none, some (zo_ic zc_ge 89 27), none, none, none, none, none, none, none],
  [none, none, none, none, none, none, none, none, none, none, none, none, none, none, none, none],
  [none, none, none, none, none, none, none, none, none, none, none, none, none, none, none, none],
  [none, none, none, none, none, none, none, none, none, none, none, none, none, none, none, none],
  [none, none, none, none, none, none, none, none, none, some (zo_ret0 0 0)]]
noncomputable def mX7_openSeats : zM := (yX7_openSeats, cX7_openSeats, 4, none, 0, 0, kX7_openSeats)
noncomputable def kX7_paid : zCode := [[some (zo_loadA 1 0), some (zo_get 4 7 1), none, none, some (zo_loadI 5 1), some (zo_call 8 19 2 0 0 0 0 (zrecv 0)), none, none, some (zo_if zd_ne 13 11), none, none, some (zo_push 12 (.inl ((.negSucc 0, .negSucc 0), none))), some (zo_ret1 0 0 0), none, none, none],
  [none, none, none, none, none, none, none, none, none, none, none, none, none, none, none, none],
  [none, none, none, none, none, none, none, none, none, none, none, none, none, none, none, none],
  [none, none, none, none, none, none, none, none, none, none, none, none, none, none, none, none],
  [none, none, none, none, none, none, none, none, none, none, none, none, none, none, none, none],
  [none, none, none, none, none, none, none, none, none, none, none, none, none, none, none, none],
  [none, none, none, none, none, none, none, none, none, none, none, none, none, none, none, none],
  [none, none, none, none, none, none, none, none, none, none, none, none, none, none, none]]
noncomputable def mX7_paid : zM := (yX7_paid, cX7_paid, 8, (some .int), 0, 0, kX7_paid)
noncomputable def kX7_power : zCode := [[some (zo_push 1 (.inr (.inl (.ofNat 1, .ofNat 1)))), some (zo_stL 2 2), some (zo_push 3 (.inl ((.ofNat 0, .ofNat 0), none))), some (zo_stI 5 4), none, some (zo_loadI 7 4), none, some (zo_loadI 8 1), some (zo_ic zc_ge 22 11), none, none, none, none, none, none, none],
  [none, none, none, none, none, none, some (zo_loadL 23 2), some (zo_ret1 0 0 1)]]
noncomputable def mX7_power : zM := (yX7_power, cX7_power, 5, (some .long), 0, 0, kX7_power)
noncomputable def kX7_priceByHard : zCode := [[some (zo_push 1 (.inl ((.ofNat 0, .ofNat 0), none))), some (zo_stI 2 1), some (zo_loadI 3 1), some (zo_loadA 4 0), some (zo_get 7 7 1), none, none, some (zo_get 10 0 6), none, none, some (zo_ic zc_ge 53 13), none, none, none, none, none],
  [none, none, none, none, none, none, none, none, none, none, none, none, none, none, none, none],
  [none, none, none, none, none, none, none, none, none, none, none, none, none, none, none, none],
  [none, none, none, none, none, some (zo_ret0 0 0)]]
noncomputable def mX7_priceByHard : zM := (yX7_priceByHard, cX7_priceByHard, 3, none, 0, 0, kX7_priceByHard)
noncomputable def kX7_priceByName : zCode := [[some (zo_push 1 (.inl ((.ofNat 0, .ofNat 0), none))), some (zo_stI 2 1), some (zo_loadI 3 1), some (zo_loadA 4 0), some (zo_get 7 7 1), none, none, some (zo_get 10 0 6), none, none, some (zo_ic zc_ge 48 13), none, none, none, none, none],
  [none, none, none, none, none, none, none, none, none, none, none, none, none, none, none, none],
  [none, none, none, none, none, none, none, none, none, none, none, none, none, none, none, none],
  [some (zo_ret0 0 0)]]
noncomputable def mX7_priceByName : zM := (yX7_priceByName, cX7_priceByName, 3, none, 0, 0, kX7_priceByName)
noncomputable def kX7_readSpare : zCode := [[some (zo_loadA 1 0), some (zo_get 4 7 14), none, none, some (zo_loadA 5 0), some (zo_get 8 7 0), none, none, some (zo_call 11 42 2 0 0 0 0 (zrecv 3)), none, none, some (zo_stI 12 1), some (zo_loadA 13 0), some (zo_get 16 7 0), none, none],
  [some (zo_call 19 68 1 0 0 0 0 (zrecv 6)), none, none, some (zo_loadI 20 1), some (zo_ret1 0 0 0)]]
noncomputable def mX7_readSpare : zM := (yX7_readSpare, cX7_readSpare, 2, (some .int), 0, 0, kX7_readSpare)
noncomputable def kX7_rests : zCode := [[some (zo_loadI 1 1), some (zo_if zd_lt 20 4), none, none, some (zo_loadI 5 1), some (zo_push 7 (.inl ((.ofNat 10, .ofNat 10), none))), none, some (zo_ic zc_ge 20 10), none, none, some (zo_loadI 11 2), some (zo_if zd_lt 20 14), none, none, some (zo_loadI 15 2), some (zo_push 17 (.inl ((.ofNat 10, .ofNat 10), none)))],
  [none, some (zo_ic zc_lt 22 20), none, none, some (zo_push 21 (.inl ((.negSucc 0, .negSucc 0), none))), some (zo_ret1 0 0 0), some (zo_push 23 (.inl ((.ofNat 0, .ofNat 0), none))), some (zo_stI 24 3), some (zo_push 25 (.inl ((.ofNat 0, .ofNat 0), none))), some (zo_stI 27 4), none, some (zo_push 28 (.inl ((.ofNat 0, .ofNat 0), none))), some (zo_stI 30 5), none, some (zo_push 32 (.inl ((.ofNat 99, .ofNat 99), none))), none],
  [some (zo_stI 34 6), none, some (zo_loadI 36 6), none, some (zo_if zd_lt 93 39), none, none, some (zo_loadI 41 6), none, some (zo_push 43 (.inl ((.ofNat 10, .ofNat 10), none))), none, some (zo_i2d 44 zi_div), some (zo_loadI 46 6), none, some (zo_push 48 (.inl ((.ofNat 10, .ofNat 10), none))), none],
  [some (zo_i2d 49 zi_rem), some (zo_loadI 50 1), some (zo_loadI 51 2), some (zo_call 54 98 4 0 0 0 0 zrecv0), none, none, some (zo_if zd_eq 87 57), none, none, some (zo_inc 60 3 (.ofNat 1)), none, none, some (zo_loadI 62 4), none, some (zo_loadI 64 6), none],
  [some (zo_push 66 (.inl ((.ofNat 10, .ofNat 10), none))), none, some (zo_i2d 67 zi_div), some (zo_loadI 69 6), none, some (zo_push 71 (.inl ((.ofNat 10, .ofNat 10), none))), none, some (zo_i2d 72 zi_rem), some (zo_ic zc_lt 79 75), none, none, some (zo_push 76 (.inl ((.ofNat 1, .ofNat 1), none))), some (zo_goto 80), none, none, some (zo_push 80 (.inl ((.ofNat 0, .ofNat 0), none)))],
  [some (zo_add 81), some (zo_stI 83 4), none, some (zo_loadI 85 6), none, some (zo_stI 87 5), none, some (zo_inc 90 6 (.negSucc 0)), none, none, some (zo_goto 34), none, none, some (zo_loadA 94 0), some (zo_get 97 7 9), none],
  [none, some (zo_call 100 28 1 0 0 0 0 (zrecv 1)), none, none, some (zo_loadI 101 3), some (zo_if zd_le 133 104), none, none, some (zo_loadA 105 0), some (zo_get 108 7 9), none, none, some (zo_loadI 110 5), none, some (zo_push 112 (.inl ((.ofNat 10, .ofNat 10), none))), none],
  [some (zo_i2d 113 zi_div), some (zo_i2l 114), some (zo_loadI 116 5), none, some (zo_push 118 (.inl ((.ofNat 10, .ofNat 10), none))), none, some (zo_i2d 119 zi_rem), some (zo_i2l 120), some (zo_call 123 31 3 0 0 0 0 (zrecv 1)), none, none, some (zo_loadA 124 0), some (zo_get 127 7 9), none, none, some (zo_loadI 129 4)],
  [none, some (zo_i2l 130), some (zo_call 133 27 2 0 0 0 0 (zrecv 1)), none, none, some (zo_loadI 134 3), some (zo_ret1 0 0 0)]]
noncomputable def mX7_rests : zM := (yX7_rests, cX7_rests, 7, (some .int), 0, 0, kX7_rests)
noncomputable def kX7_rider : zCode := [[some (zo_loadA 1 0), some (zo_get 4 7 1), none, none, some (zo_loadI 5 1), some (zo_call 8 19 2 0 0 0 0 (zrecv 0)), none, none, some (zo_if zd_eq 20 11), none, none, none, none, none, none, none],
  [none, none, none, none, none, none, none, some (zo_dup 24), none, none, none, none, none, none, none, none],
  [none, none, none, none, none, none, none, none, none, none, none, none, none, none, none, none],
  [none, none, none, none, none, none, none, none, none, none, none, none, none, none, none, none],
  [none, none, none, none, none, none, none, none, none, none, none, none, none, none, none, none],
  [none, none, none, none, none, none, none, none, none, none, none, none, none, none, none, none],
  [none, none, none, none, none, none, none, none, none, none, none, none, none, none, none, none],
  [none, none, none, none, none, none, none, none, none, none, none, none, none, none, none, none],
  [none, none]]
noncomputable def mX7_rider : zM := (yX7_rider, cX7_rider, 3, (some .int), 0, 0, kX7_rider)
noncomputable def kX7_riders : zCode := [[some (zo_loadA 1 0), some (zo_get 4 7 1), none, none, some (zo_loadA 5 0), some (zo_get 8 7 0), none, none, some (zo_call 11 25 2 0 0 0 0 (zrecv 0)), none, none, some (zo_stI 12 1), some (zo_loadA 13 0), some (zo_get 16 7 0), none, none],
  [some (zo_call 19 68 1 0 0 0 0 (zrecv 6)), none, none, some (zo_loadI 20 1), some (zo_if zd_le 34 23), none, none, none, none, none, none, none, none, none, none, none],
  [none, none, some (zo_loadI 35 1), some (zo_ret1 0 0 0)]]
noncomputable def mX7_riders : zM := (yX7_riders, cX7_riders, 2, (some .int), 0, 0, kX7_riders)
noncomputable def kX7_rota : zCode := [[some (zo_loadA 1 0), some (zo_call 4 121 1 0 0 0 0 (zrecv 7)), none, none, some (zo_stI 5 1), some (zo_push 6 (.inl ((.negSucc 0, .negSucc 0), none))), some (zo_loadI 7 1), some (zo_sub 8), some (zo_stI 9 2), some (zo_loadI 10 1), some (zo_push 11 (.inl ((.negSucc 0, .negSucc 0), none))), some (zo_ic zc_ne 41 14), none, none, none, none],
  [none, none, none, none, none, none, none, none, none, none, none, none, none, none, none, none],
  [none, none, none, none, none, none, none, none, none, some (zo_loadA 42 0), some (zo_get 45 7 0), none, none, some (zo_call 48 68 1 0 0 0 0 (zrecv 6)), none, none],
  [some (zo_loadI 49 2), some (zo_ret1 0 0 0)]]
noncomputable def mX7_rota : zM := (yX7_rota, cX7_rota, 3, (some .int), 0, 0, kX7_rota)
noncomputable def kX7_rotaFault : zCode := [[some (zo_loadA 1 0), some (zo_get 4 7 0), none, none, some (zo_get 7 6 1), none, none, some (zo_loadA 8 0), some (zo_get 11 7 1), none, none, some (zo_get 14 0 7), none, none, some (zo_m2 17 0 0 zi_min), none],
  [none, some (zo_stI 18 1), some (zo_push 19 (.inl ((.ofNat 0, .ofNat 0), none))), some (zo_stI 20 2), some (zo_loadI 21 2), some (zo_loadI 22 1), some (zo_ic zc_ge 69 25), none, none, none, none, none, none, none, none, none],
  [none, none, none, none, none, none, none, none, none, none, none, none, none, none, none, none],
  [none, none, none, none, none, none, none, none, none, none, none, none, none, none, none, none],
  [none, none, none, none, none, some (zo_loadA 70 0), some (zo_get 73 7 0), none, none, some (zo_get 76 6 1), none, none, some (zo_loadA 77 0), some (zo_get 80 7 1), none, none],
  [some (zo_get 83 0 7), none, none, some (zo_ic zc_ne 90 86), none, none, none, none, none, none, some (zo_loadI 91 1), some (zo_ret1 0 0 0)]]
noncomputable def mX7_rotaFault : zM := (yX7_rotaFault, cX7_rotaFault, 4, (some .int), 0, 0, kX7_rotaFault)
noncomputable def kX7_rotas : zCode := [[some (zo_loadA 1 0), some (zo_push 2 (.inl ((.negSucc 0, .negSucc 0), none))), some (zo_call 5 111 2 0 0 0 0 (zrecv 7)), none, none, some (zo_loadA 6 0), some (zo_call 9 134 1 0 0 0 0 (zrecv 7)), none, none, some (zo_ret1 0 0 0)]]
noncomputable def mX7_rotas : zM := (yX7_rotas, cX7_rotas, 1, (some .int), 0, 0, kX7_rotas)
noncomputable def kX7_row : zCode := [[some (zo_loadI 1 1), some (zo_if zd_lt 15 4), none, none, some (zo_loadI 5 1), some (zo_loadA 6 0), some (zo_get 9 7 9), none, none, some (zo_get 12 1 1), none, none, some (zo_ic zc_lt 23 15), none, none, none],
  [none, none, some (zo_dup 19), none, none, none, none, none, none, none, none, none, none, none, none, none]]
noncomputable def mX7_row : zM := (yX7_row, cX7_row, 2, (some .long), 0, 0, kX7_row)
noncomputable def kX7_rule : zCode := [[some (zo_loadA 1 0), some (zo_call 4 116 1 0 0 0 0 (zrecv 7)), none, none, some (zo_stI 5 1), some (zo_loadI 6 1), some (zo_push 7 (.inl ((.negSucc 0, .negSucc 0), none))), some (zo_ic zeqn 14 10), none, none, none, none, none, none, some (zo_loadA 15 0), some (zo_get 18 7 1)],
  [none, none, some (zo_get 21 0 9), none, none, some (zo_stA 22 2), some (zo_loadA 23 0), some (zo_get 26 7 1), none, none, some (zo_loadA 27 0), some (zo_get 30 7 14), none, none, some (zo_put 33 0 9 3), none],
  [none, some (zo_loadA 34 0), some (zo_loadA 35 2), some (zo_put 38 7 14 3), none, none, some (zo_push 39 (.inl ((.ofNat 0, .ofNat 0), none))), some (zo_ret1 0 0 0)]]
noncomputable def mX7_rule : zM := (yX7_rule, cX7_rule, 3, (some .int), 0, 0, kX7_rule)
noncomputable def kX7_set : zCode := [[some (zo_push 1 (.inl ((.negSucc 0, .negSucc 0), none))), some (zo_stI 2 3), some (zo_loadI 3 1), some (zo_if zd_ne 36 6), none, none, some (zo_loadI 7 2), some (zo_push 8 (.inl ((.ofNat 1, .ofNat 1), none))), some (zo_ic zc_lt 36 11), none, none, some (zo_loadI 12 2), some (zo_push 14 (.inl ((.ofNat 8, .ofNat 8), none))), none, some (zo_ic zc_gt 36 17), none],
  [none, some (zo_loadA 18 0), some (zo_get 21 7 1), none, none, some (zo_get 24 0 7), none, none, some (zo_stI 25 3), some (zo_loadA 26 0), some (zo_get 29 7 1), none, none, some (zo_loadI 30 2), some (zo_put 33 0 7 0), none],
  [none, some (zo_goto 67), none, none, some (zo_loadI 37 1), some (zo_push 38 (.inl ((.ofNat 1, .ofNat 1), none))), some (zo_ic zc_ne 67 41), none, none, some (zo_loadI 42 2), some (zo_if zd_lt 67 45), none, none, some (zo_loadI 46 2), some (zo_push 48 (.inl ((.ofNat 9, .ofNat 9), none))), none],
  [some (zo_ic zc_gt 67 51), none, none, some (zo_loadA 52 0), some (zo_get 55 7 1), none, none, some (zo_get 58 0 8), none, none, some (zo_stI 59 3), some (zo_loadA 60 0), some (zo_get 63 7 1), none, none, some (zo_loadI 64 2)],
  [some (zo_put 67 0 8 0), none, none, some (zo_loadI 68 3), some (zo_ret1 0 0 0)]]
noncomputable def mX7_set : zM := (yX7_set, cX7_set, 4, (some .int), 0, 0, kX7_set)
noncomputable def kX7_shared : zCode := [[some (zo_loadA 1 0), some (zo_get 4 7 1), none, none, some (zo_loadI 5 1), some (zo_loadI 6 2), some (zo_call 9 18 3 0 0 0 0 (zrecv 0)), none, none, some (zo_if zd_ne 14 12), none, none, some (zo_push 13 (.inl ((.negSucc 0, .negSucc 0), none))), some (zo_ret1 0 0 0), none, none],
  [none, none, none, none, none, none, none, none, none, none, none, none, none, none, none, none],
  [none, none, none, none, none, none, none, none, none, none, none, none, none, none, none, none],
  [none, none, none, none, none, none, none, none, none, none, none, none, none, none, none, none],
  [none, none, none]]
noncomputable def mX7_shared : zM := (yX7_shared, cX7_shared, 3, (some .int), 0, 0, kX7_shared)
noncomputable def kX7_sheet : zCode := [[some (zo_loadI 1 1), some (zo_if zd_lt 15 4), none, none, some (zo_loadI 5 1), some (zo_push 6 (.inl ((.ofNat 3, .ofNat 3), none))), some (zo_ic zc_gt 15 9), none, none, some (zo_loadI 10 2), some (zo_push 12 (.inl ((.ofNat 8, .ofNat 8), none))), none, some (zo_ic zc_le 17 15), none, none, some (zo_push 16 (.inl ((.negSucc 0, .negSucc 0), none)))],
  [some (zo_ret1 0 0 0), some (zo_loadI 18 1), some (zo_push 19 (.inl ((.ofNat 3, .ofNat 3), none))), some (zo_ic zc_ne 36 22), none, none, some (zo_loadA 23 0), some (zo_get 26 7 2), none, none, some (zo_get 29 5 1), none, none, some (zo_push 30 (.inl ((.ofNat 0, .ofNat 0), none))), some (zo_call 33 16 2 0 0 0 0 zrecv0), none],
  [none, some (zo_push 35 (.inl ((.negSucc 2, .negSucc 2), none))), none, some (zo_ret1 0 0 0), some (zo_loadI 37 2), some (zo_if zd_ge 43 40), none, none, some (zo_push 42 (.inl ((.negSucc 1, .negSucc 1), none))), none, some (zo_ret1 0 0 0), some (zo_push 44 (.inl ((.ofNat 0, .ofNat 0), none))), some (zo_stI 46 5), none, some (zo_loadI 48 5), none],
  [some (zo_loadA 49 0), some (zo_get 52 7 1), none, none, some (zo_get 55 0 6), none, none, some (zo_ic zc_ge 101 58), none, none, none, none, none, none, none, none],
  [none, none, none, none, none, none, none, none, none, none, none, none, none, none, none, none],
  [none, none, none, none, none, none, none, none, none, none, none, none, none, none, none, none],
  [none, none, none, none, none, some (zo_loadA 102 0), some (zo_get 105 7 2), none, none, some (zo_call 108 65 1 0 0 0 0 (zrecv 5)), none, none, some (zo_ret1 0 0 0)]]
noncomputable def mX7_sheet : zM := (yX7_sheet, cX7_sheet, 6, (some .int), 0, 0, kX7_sheet)
noncomputable def kX7_sign : zCode := [[some (zo_loadA 1 0), some (zo_get 4 7 0), none, none, some (zo_loadI 5 1), some (zo_call 8 66 2 0 0 0 0 (zrecv 6)), none, none, some (zo_ret1 0 0 0)]]
noncomputable def mX7_sign : zM := (yX7_sign, cX7_sign, 2, (some .int), 0, 0, kX7_sign)
noncomputable def kX7_smoothest : zCode := [[some (zo_loadA 1 0), some (zo_push 2 (.inl ((.negSucc 0, .negSucc 0), none))), some (zo_call 5 111 2 0 0 0 0 (zrecv 7)), none, none, some (zo_loadA 6 0), some (zo_call 9 115 1 0 0 0 0 (zrecv 7)), none, none, some (zo_loadA 10 0), some (zo_get 13 7 8), none, none, some (zo_loadA 14 0), some (zo_get 17 7 1), none],
  [none, some (zo_get 20 0 2), none, none, some (zo_loadA 21 0), some (zo_get 24 7 1), none, none, some (zo_get 27 0 6), none, none, some (zo_call 30 59 3 0 0 0 0 (zrecv 4)), none, none, some (zo_loadA 31 0), some (zo_get 34 7 8)],
  [none, none, some (zo_call 37 56 1 0 0 0 0 (zrecv 4)), none, none, some (zo_stL 38 1), some (zo_loadL 39 1), some (zo_push 42 (.inr (.inl (.ofNat 1152921504606846976, .ofNat 1152921504606846976)))), none, none, some (zo_lcmp 43), some (zo_if zd_lt 51 46), none, none, some (zo_push 48 (.inl ((.negSucc 1, .negSucc 1), none))), none],
  [some (zo_goto 56), none, none, none, none, none, none, none, some (zo_ret1 0 0 0)]]
noncomputable def mX7_smoothest : zM := (yX7_smoothest, cX7_smoothest, 3, (some .int), 0, 0, kX7_smoothest)
noncomputable def kX7_spent : zCode := [[some (zo_loadI 1 1), some (zo_if zd_lt 11 4), none, none, some (zo_loadI 5 1), some (zo_push 8 (.inl ((.ofNat 999, .ofNat 999), none))), none, none, some (zo_ic zc_le 13 11), none, none, some (zo_push 12 (.inl ((.negSucc 0, .negSucc 0), none))), some (zo_ret1 0 0 0), some (zo_push 14 (.inl ((.ofNat 0, .ofNat 0), none))), some (zo_stI 15 2), some (zo_push 16 (.inl ((.ofNat 0, .ofNat 0), none)))],
  [some (zo_stI 17 3), some (zo_push 18 (.inl ((.ofNat 0, .ofNat 0), none))), some (zo_stI 20 4), none, some (zo_loadI 22 4), none, some (zo_loadA 23 0), some (zo_get 26 7 1), none, none, some (zo_get 29 0 6), none, none, some (zo_ic zc_ge 66 32), none, none],
  [none, none, none, none, none, none, none, none, none, none, none, none, none, none, none, none],
  [none, none, none, none, none, none, none, none, none, none, none, none, none, none, none, none],
  [none, none, some (zo_loadA 67 0), some (zo_get 70 7 9), none, none, some (zo_loadI 71 2), some (zo_call 74 14 1 0 0 0 0 zrecv0), none, none, some (zo_i2l 75), some (zo_loadI 76 3), some (zo_i2l 77), some (zo_call 80 31 3 0 0 0 0 (zrecv 1)), none, none],
  [some (zo_loadI 81 2), some (zo_ret1 0 0 0)]]
noncomputable def mX7_spent : zM := (yX7_spent, cX7_spent, 6, (some .int), 0, 0, kX7_spent)
noncomputable def kX7_sure : zCode := [[some (zo_loadI 1 1), some (zo_if zd_lt 26 4), none, none, some (zo_loadI 5 1), some (zo_loadA 6 0), some (zo_get 9 7 1), none, none, some (zo_get 12 0 7), none, none, some (zo_ic zc_ge 26 15), none, none, some (zo_loadA 16 0)],
  [some (zo_get 19 7 1), none, none, some (zo_loadI 20 2), some (zo_call 23 19 2 0 0 0 0 (zrecv 0)), none, none, some (zo_if zd_ne 28 26), none, none, some (zo_push 27 (.inl ((.negSucc 0, .negSucc 0), none))), some (zo_ret1 0 0 0), none, none, none, none],
  [none, none, none, none, none, none, none, none, none, none, none, none, none, none, none, none],
  [none, none, none, none, none, none, none, none, none, none, none, none, none, none, none, none],
  [none, none, none, none, none, none, none, none, none, none, none, none, none]]
noncomputable def mX7_sure : zM := (yX7_sure, cX7_sure, 5, (some .int), 0, 0, kX7_sure)
noncomputable def kX7_takes : zCode := [[some (zo_loadA 1 0), some (zo_push 2 (.inl ((.negSucc 0, .negSucc 0), none))), some (zo_call 5 81 2 0 0 0 0 (zrecv 7)), none, none, some (zo_stL 6 1), some (zo_loadL 7 1), some (zo_push 10 (.inr (.inl (.ofNat 1152921504606846976, .ofNat 1152921504606846976)))), none, none, some (zo_lcmp 11), some (zo_if zd_lt 17 14), none, none, some (zo_push 16 (.inl ((.negSucc 1, .negSucc 1), none))), none],
  [some (zo_ret1 0 0 0), none, none, none, none, none, none, none, none, none, none, none, none, none, none, none],
  [none, none, none, none, none, none, none, none, none, none, none, none, none, none, none, none],
  [none, none, none, none, none, none, none, none, none, none, none, none, none, none, none, none],
  [none, none, none, none, none, none, none, none, none, none, none, none, none, none, none, none],
  [none, none, none, none, none, none, none, none, none, none, none, none, none, none, none, none]]
noncomputable def mX7_takes : zM := (yX7_takes, cX7_takes, 6, (some .int), 0, 0, kX7_takes)
noncomputable def kX7_tellFraction : zCode := [[some (zo_loadL 1 1), some (zo_loadL 2 3), some (zo_call 5 92 2 0 0 0 0 zrecv0), none, none, some (zo_stL 7 5), none, some (zo_loadL 9 5), none, some (zo_push 10 (.inr (.inl (.ofNat 0, .ofNat 0)))), some (zo_lcmp 11), some (zo_if zd_le 29 14), none, none, some (zo_loadA 15 0), some (zo_get 18 7 9)],
  [none, none, some (zo_loadL 19 1), some (zo_loadL 21 5), none, some (zo_l2d 22 zl_div), some (zo_loadL 23 3), some (zo_loadL 25 5), none, some (zo_l2d 26 zl_div), some (zo_call 29 31 3 0 0 0 0 (zrecv 1)), none, none, some (zo_ret0 0 0)]]
noncomputable def mX7_tellFraction : zM := (yX7_tellFraction, cX7_tellFraction, 7, none, 0, 0, kX7_tellFraction)
noncomputable def kX7_tellWays : zCode := [[some (zo_loadA 1 0), some (zo_get 4 7 8), none, none, some (zo_call 7 60 1 0 0 0 0 (zrecv 4)), none, none, some (zo_stI 8 1), some (zo_loadA 9 0), some (zo_get 12 7 9), none, none, some (zo_call 15 28 1 0 0 0 0 (zrecv 1)), none, none, some (zo_loadI 16 1)],
  [some (zo_if zd_le 35 19), none, none, none, none, none, none, none, none, none, none, none, none, none, none, none],
  [none, none, none, some (zo_loadI 36 1), some (zo_ret1 0 0 0)]]
noncomputable def mX7_tellWays : zM := (yX7_tellWays, cX7_tellWays, 2, (some .int), 0, 0, kX7_tellWays)
noncomputable def kX7_thin : zCode := [[some (zo_push 2 (.inl ((.ofNat 9, .ofNat 9), none))), none, some (zo_stI 3 1), some (zo_push 4 (.inl ((.ofNat 0, .ofNat 0), none))), some (zo_stI 5 2), some (zo_push 6 (.inl ((.ofNat 0, .ofNat 0), none))), some (zo_stI 7 3), some (zo_loadI 8 3), some (zo_loadA 9 0), some (zo_get 12 7 1), none, none, some (zo_get 15 0 7), none, none, some (zo_ic zc_ge 86 18)],
  [none, none, some (zo_push 19 (.inl ((.ofNat 0, .ofNat 0), none))), some (zo_stI 21 4), none, some (zo_push 22 (.inl ((.ofNat 0, .ofNat 0), none))), some (zo_stI 24 5), none, some (zo_loadI 26 5), none, some (zo_loadA 27 0), some (zo_get 30 7 1), none, none, some (zo_get 33 0 6), none],
  [none, some (zo_ic zc_ge 69 36), none, none, none, none, none, none, none, none, none, none, none, none, none, none],
  [none, none, none, none, none, none, none, none, none, none, none, none, none, none, none, none],
  [none, none, none, none, none, some (zo_loadI 71 4), none, some (zo_loadI 72 1), some (zo_ic zc_ge 80 75), none, none, some (zo_loadI 77 4), none, some (zo_stI 78 1), some (zo_loadI 79 3), some (zo_stI 80 2)],
  [some (zo_inc 83 3 (.ofNat 1)), none, none, some (zo_goto 7), none, none, some (zo_loadA 87 0), some (zo_get 90 7 9), none, none, some (zo_loadI 91 1), some (zo_i2l 92), some (zo_call 95 30 2 0 0 0 0 (zrecv 1)), none, none, some (zo_loadI 96 2)],
  [some (zo_ret1 0 0 0)]]
noncomputable def mX7_thin : zM := (yX7_thin, cX7_thin, 6, (some .int), 0, 0, kX7_thin)
noncomputable def kX7_trade : zCode := [[some (zo_loadA 1 0), some (zo_get 4 7 1), none, none, some (zo_get 7 0 7), none, none, some (zo_push 8 (.inl ((.ofNat 2, .ofNat 2), none))), some (zo_ic zc_ge 14 11), none, none, none, none, none, some (zo_loadA 15 0), some (zo_get 18 7 4)],
  [none, none, some (zo_loadA 19 0), some (zo_get 22 7 2), none, none, some (zo_call 25 62 2 0 0 0 0 (zrecv 5)), none, none, some (zo_push 27 (.inl ((.ofNat 9, .ofNat 9), none))), none, some (zo_stI 28 1), some (zo_push 29 (.inl ((.ofNat 0, .ofNat 0), none))), some (zo_stI 30 2), some (zo_push 31 (.inl ((.ofNat 0, .ofNat 0), none))), some (zo_stI 32 3)],
  [some (zo_push 33 (.inl ((.ofNat 0, .ofNat 0), none))), some (zo_stI 35 4), none, some (zo_loadI 37 4), none, some (zo_loadA 38 0), some (zo_get 41 7 1), none, none, some (zo_get 44 0 7), none, none, some (zo_ic zc_ge 102 47), none, none, some (zo_loadI 49 4)],
  [none, some (zo_push 50 (.inl ((.ofNat 1, .ofNat 1), none))), some (zo_add 51), some (zo_stI 53 5), none, some (zo_loadI 55 5), none, some (zo_loadA 56 0), some (zo_get 59 7 1), none, none, some (zo_get 62 0 7), none, none, some (zo_ic zc_ge 96 65), none],
  [none, some (zo_loadA 66 0), some (zo_loadI 68 4), none, some (zo_loadI 70 5), none, some (zo_call 73 90 3 0 0 0 0 (zrecv 7)), none, none, some (zo_stI 75 6), none, some (zo_loadI 77 6), none, some (zo_loadI 78 1), some (zo_ic zc_ge 90 81), none],
  [none, some (zo_loadI 83 6), none, some (zo_stI 84 1), some (zo_loadI 86 4), none, some (zo_stI 87 2), some (zo_loadI 89 5), none, some (zo_stI 90 3), some (zo_inc 93 5 (.ofNat 1)), none, none, some (zo_goto 53), none, none],
  [some (zo_inc 99 4 (.ofNat 1)), none, none, some (zo_goto 35), none, none, some (zo_loadA 103 0), some (zo_get 106 7 1), none, none, some (zo_loadA 107 0), some (zo_get 110 7 2), none, none, some (zo_call 113 26 2 0 0 0 0 (zrecv 0)), none],
  [none, some (zo_loadA 114 0), some (zo_get 117 7 9), none, none, some (zo_loadI 118 2), some (zo_i2l 119), some (zo_loadI 120 3), some (zo_i2l 121), some (zo_call 124 31 3 0 0 0 0 (zrecv 1)), none, none, some (zo_loadA 125 0), some (zo_get 128 7 9), none, none],
  [some (zo_loadA 129 0), some (zo_get 132 7 1), none, none, some (zo_get 135 0 10), none, none, some (zo_call 138 14 1 0 0 0 0 zrecv0), none, none, some (zo_i2l 139), some (zo_call 142 27 2 0 0 0 0 (zrecv 1)), none, none, some (zo_loadI 143 1), some (zo_ret1 0 0 0)]]
noncomputable def mX7_trade : zM := (yX7_trade, cX7_trade, 7, (some .int), 0, 0, kX7_trade)
noncomputable def kX7_undo : zCode := [[some (zo_loadA 1 0), some (zo_get 4 7 5), none, none, some (zo_loadA 5 0), some (zo_get 8 7 2), none, none, some (zo_call 11 33 2 0 0 0 0 (zrecv 2)), none, none, some (zo_ret1 0 0 0)]]
noncomputable def mX7_undo : zM := (yX7_undo, cX7_undo, 1, (some .int), 0, 0, kX7_undo)
noncomputable def kX7_vigil : zCode := [[some (zo_loadI 1 1), some (zo_if zd_lt 10 4), none, none, some (zo_loadI 5 1), some (zo_push 7 (.inl ((.ofNat 60, .ofNat 60), none))), none, some (zo_ic zc_le 12 10), none, none, some (zo_push 11 (.inl ((.negSucc 0, .negSucc 0), none))), some (zo_ret1 0 0 0), some (zo_loadA 13 0), some (zo_get 16 7 4), none, none],
  [some (zo_loadA 17 0), some (zo_get 20 7 2), none, none, some (zo_call 23 62 2 0 0 0 0 (zrecv 5)), none, none, some (zo_push 24 (.inl ((.ofNat 0, .ofNat 0), none))), some (zo_stI 25 2), some (zo_push 26 (.inl ((.negSucc 0, .negSucc 0), none))), some (zo_stI 27 3), some (zo_push 28 (.inl ((.ofNat 0, .ofNat 0), none))), some (zo_stI 30 4), none, some (zo_push 31 (.inl ((.ofNat 0, .ofNat 0), none))), some (zo_stI 33 5)],
  [none, some (zo_loadI 35 5), none, some (zo_loadI 36 1), some (zo_ic zc_ge 93 39), none, none, some (zo_loadA 40 0), some (zo_get 43 7 1), none, none, some (zo_loadA 44 0), some (zo_get 47 7 4), none, none, some (zo_call 50 23 2 0 0 0 0 (zrecv 0))],
  [none, none, some (zo_loadA 51 0), some (zo_get 54 7 1), none, none, some (zo_get 57 0 10), none, none, some (zo_if zd_ne 67 60), none, none, none, none, none, none],
  [none, none, none, some (zo_push 68 (.inl ((.ofNat 0, .ofNat 0), none))), some (zo_stI 70 4), none, some (zo_loadI 72 4), none, some (zo_loadI 73 2), some (zo_ic zc_le 87 76), none, none, none, none, none, none],
  [none, none, none, none, none, none, none, some (zo_inc 90 5 (.ofNat 1)), none, none, some (zo_goto 33), none, none, some (zo_loadA 94 0), some (zo_get 97 7 9), none],
  [none, some (zo_loadI 98 3), some (zo_i2l 99), some (zo_call 102 30 2 0 0 0 0 (zrecv 1)), none, none, some (zo_loadI 103 2), some (zo_ret1 0 0 0)]]
noncomputable def mX7_vigil : zM := (yX7_vigil, cX7_vigil, 6, (some .int), 0, 0, kX7_vigil)
noncomputable def kX7_wellOnes : zCode := [[some (zo_push 1 (.inl ((.ofNat 1, .ofNat 1), none))), some (zo_loadA 2 0), some (zo_get 5 7 1), none, none, some (zo_get 8 0 6), none, none, some (zo_i2 9 zi_shl), some (zo_push 10 (.inl ((.ofNat 1, .ofNat 1), none))), some (zo_sub 11), some (zo_loadA 12 0), some (zo_get 15 7 2), none, none, some (zo_get 18 5 2)],
  [none, none, some (zo_push 19 (.inl ((.negSucc 0, .negSucc 0), none))), some (zo_i2 20 zi_xor), some (zo_i2 21 zi_and), some (zo_ret1 0 0 0)]]
noncomputable def mX7_wellOnes : zM := (yX7_wellOnes, cX7_wellOnes, 1, (some .int), 0, 0, kX7_wellOnes)
noncomputable def kX7_year : zCode := [[some (zo_loadA 1 0), some (zo_call 4 141 1 0 0 0 0 (zrecv 7)), none, none, some (zo_stI 5 1), some (zo_loadI 6 1), some (zo_push 7 (.inl ((.negSucc 0, .negSucc 0), none))), some (zo_ic zeqn 21 10), none, none, none, none, none, none, none, none],
  [none, none, none, none, none, some (zo_loadA 22 0), some (zo_get 25 7 3), none, none, some (zo_loadA 26 0), some (zo_get 29 7 2), none, none, some (zo_call 32 62 2 0 0 0 0 (zrecv 5)), none, none],
  [some (zo_push 33 (.inl ((.ofNat 0, .ofNat 0), none))), some (zo_stI 34 2), some (zo_push 35 (.inl ((.ofNat 0, .ofNat 0), none))), some (zo_stI 36 3), some (zo_push 37 (.inl ((.ofNat 1, .ofNat 1), none))), some (zo_stI 39 4), none, some (zo_push 40 (.inl ((.ofNat 0, .ofNat 0), none))), some (zo_stI 42 5), none, some (zo_loadI 44 5), none, some (zo_push 46 (.inl ((.ofNat 60, .ofNat 60), none))), none, some (zo_ic zc_ge 132 49), none],
  [none, some (zo_loadI 51 4), none, some (zo_if zd_eq 132 54), none, none, some (zo_loadI 55 3), some (zo_loadA 56 0), some (zo_get 59 7 0), none, none, some (zo_get 62 6 1), none, none, some (zo_ic zc_ge 132 65), none],
  [none, none, none, none, none, none, none, none, none, none, none, none, none, none, none, none],
  [none, none, none, none, none, none, none, none, none, none, none, none, none, none, none, none],
  [none, none, none, none, none, none, none, none, none, none, none, none, none, none, none, none],
  [none, none, none, none, none, none, none, none, none, none, none, none, none, none, none, none],
  [none, none, none, none, some (zo_loadI 133 2), some (zo_if zd_le 147 136), none, none, none, none, none, none, none, none, none, none],
  [none, none, none, some (zo_loadA 148 0), some (zo_get 151 7 0), none, none, some (zo_call 154 68 1 0 0 0 0 (zrecv 6)), none, none, some (zo_loadA 155 0), some (zo_get 158 7 9), none, none, some (zo_loadI 160 4), none],
  [some (zo_if zd_eq 167 163), none, none, some (zo_push 164 (.inr (.inl (.ofNat 0, .ofNat 0)))), some (zo_goto 168), none, none, none, some (zo_loadA 169 0), some (zo_get 172 7 2), none, none, some (zo_get 175 5 4), none, none, some (zo_i2l 176)],
  [some (zo_call 179 31 3 0 0 0 0 (zrecv 1)), none, none, some (zo_loadI 180 2), some (zo_ret1 0 0 0)]]
noncomputable def mX7_year : zM := (yX7_year, cX7_year, 6, (some .int), 0, 0, kX7_year)
noncomputable def kX7_yearFault : zCode := [[some (zo_loadA 1 0), some (zo_get 4 7 0), none, none, some (zo_get 7 6 1), none, none, some (zo_push 9 (.inl ((.ofNat 60, .ofNat 60), none))), none, some (zo_m2 12 0 0 zi_min), none, none, some (zo_stI 13 1), some (zo_push 14 (.inl ((.ofNat 0, .ofNat 0), none))), some (zo_stI 15 2), some (zo_push 16 (.inl ((.ofNat 0, .ofNat 0), none)))],
  [some (zo_stI 17 3), some (zo_push 18 (.inl ((.ofNat 0, .ofNat 0), none))), some (zo_stI 20 4), none, some (zo_loadI 22 4), none, some (zo_loadI 23 1), some (zo_ic zc_ge 109 26), none, none, none, none, none, none, none, none],
  [none, none, none, none, none, none, none, none, none, none, none, none, none, none, none, none],
  [none, none, none, none, none, none, none, none, none, none, none, none, none, none, none, none],
  [none, none, none, none, none, none, none, none, none, none, none, none, none, none, none, none],
  [none, none, none, none, none, none, none, none, none, none, none, none, none, none, none, none],
  [none, none, none, none, none, none, none, none, none, none, none, none, none, some (zo_loadA 110 0), some (zo_get 113 7 0), none],
  [none, some (zo_get 116 6 1), none, none, some (zo_push 118 (.inl ((.ofNat 60, .ofNat 60), none))), none, some (zo_ic zc_gt 125 121), none, none, some (zo_loadI 122 3), some (zo_if zd_le 129 125), none, none, none, none, none],
  [none, some (zo_push 130 (.inl ((.negSucc 0, .negSucc 0), none))), some (zo_ret1 0 0 0)]]
noncomputable def mX7_yearFault : zM := (yX7_yearFault, cX7_yearFault, 7, (some .int), 0, 0, kX7_yearFault)
noncomputable def kX7_years : zCode := [[some (zo_loadI 1 2), some (zo_push 2 (.inl ((.ofNat 1, .ofNat 1), none))), some (zo_ic zc_lt 11 5), none, none, some (zo_loadI 6 2), some (zo_push 8 (.inl ((.ofNat 60, .ofNat 60), none))), none, some (zo_ic zc_le 13 11), none, none, some (zo_push 12 (.inl ((.negSucc 0, .negSucc 0), none))), some (zo_ret1 0 0 0), some (zo_loadA 14 0), some (zo_get 17 7 4), none],
  [none, some (zo_loadA 18 0), some (zo_get 21 7 2), none, none, some (zo_call 24 62 2 0 0 0 0 (zrecv 5)), none, none, some (zo_loadA 25 0), some (zo_loadI 26 1), some (zo_put 29 7 15 0), none, none, some (zo_push 30 (.inl ((.ofNat 0, .ofNat 0), none))), some (zo_stI 31 3), some (zo_loadI 32 3)],
  [some (zo_loadI 33 2), some (zo_ic zc_ge 46 36), none, none, some (zo_loadA 37 0), some (zo_call 40 79 1 0 0 0 0 (zrecv 7)), none, none, some (zo_inc 43 3 (.ofNat 1)), none, none, some (zo_goto 31), none, none, some (zo_loadA 47 0), some (zo_get 50 7 9)],
  [none, none, some (zo_loadA 51 0), some (zo_get 54 7 4), none, none, some (zo_get 57 5 5), none, none, some (zo_loadA 58 0), some (zo_get 61 7 2), none, none, some (zo_get 64 5 5), none, none],
  [some (zo_sub 65), some (zo_i2l 66), some (zo_loadA 67 0), some (zo_get 70 7 4), none, none, some (zo_call 73 65 1 0 0 0 0 (zrecv 5)), none, none, some (zo_i2l 74), some (zo_call 77 31 3 0 0 0 0 (zrecv 1)), none, none, some (zo_loadA 78 0), some (zo_get 81 7 4), none],
  [none, some (zo_get 84 5 4), none, none, some (zo_loadA 85 0), some (zo_get 88 7 2), none, none, some (zo_get 91 5 4), none, none, some (zo_sub 92), some (zo_ret1 0 0 0)]]
noncomputable def mX7_years : zM := (yX7_years, cX7_years, 4, (some .int), 0, 0, kX7_years)
noncomputable def kX8_able : zCode := [[some (zo_loadA 1 0), some (zo_push 2 (.inl ((.ofNat 0, .ofNat 0), none))), some (zo_put 5 8 11 0), none, none, some (zo_loadI 6 1), some (zo_call 9 184 1 0 0 0 0 zrecv0), none, none, some (zo_if zd_ne 14 12), none, none, some (zo_push 13 (.inl ((.negSucc 0, .negSucc 0), none))), some (zo_ret1 0 0 0), some (zo_push 15 (.inl ((.ofNat 0, .ofNat 0), none))), some (zo_stI 16 2)],
  [some (zo_loadA 17 0), some (zo_push 18 (.inl ((.ofNat 0, .ofNat 0), none))), some (zo_put 21 8 10 0), none, none, some (zo_push 22 (.inl ((.ofNat 0, .ofNat 0), none))), some (zo_stI 23 3), some (zo_loadI 24 3), some (zo_loadA 25 0), some (zo_get 28 8 3), none, none, some (zo_ic zc_ge 156 31), none, none, none],
  [none, none, none, none, none, none, none, none, none, none, none, none, none, none, none, none],
  [none, none, none, none, none, none, none, none, none, none, none, none, none, none, none, none],
  [none, none, none, none, none, none, none, none, none, none, none, none, none, none, none, none],
  [none, none, none, none, none, none, none, none, none, none, none, none, none, none, none, none],
  [none, none, none, none, none, none, none, none, none, none, none, none, none, none, none, none],
  [none, none, none, none, none, none, none, none, none, none, none, none, none, none, none, none],
  [none, none, none, none, none, none, none, none, none, none, none, none, none, none, none, none],
  [none, none, none, none, none, none, none, none, none, none, none, none, some (zo_loadA 157 0), some (zo_get 160 8 10), none, none],
  [some (zo_ret1 0 0 0)]]
noncomputable def mX8_able : zM := (yX8_able, cX8_able, 6, (some .int), 0, 0, kX8_able)
noncomputable def kX8_ableMany : zCode := [[some (zo_push 1 (.inl ((.ofNat 0, .ofNat 0), none))), some (zo_stI 2 2), some (zo_push 3 (.inl ((.ofNat 0, .ofNat 0), none))), some (zo_stI 4 3), some (zo_loadI 5 3), some (zo_loadA 6 0), some (zo_get 9 8 3), none, none, some (zo_ic zc_ge 51 12), none, none, none, none, none, none],
  [none, none, none, none, none, none, none, none, none, none, none, none, none, none, none, none],
  [none, none, none, none, none, none, none, none, none, none, none, none, none, none, none, none],
  [none, none, none, some (zo_loadI 52 2), some (zo_ret1 0 0 0)]]
noncomputable def mX8_ableMany : zM := (yX8_ableMany, cX8_ableMany, 4, (some .int), 0, 0, kX8_ableMany)
noncomputable def kX8_again : zCode := [[some (zo_loadA 1 0), some (zo_push 2 (.inl ((.ofNat 0, .ofNat 0), none))), some (zo_put 5 8 11 0), none, none, some (zo_loadI 6 1), some (zo_push 7 (.inl ((.ofNat 0, .ofNat 0), none))), some (zo_push 8 (.inl ((.ofNat 1, .ofNat 1), none))), some (zo_call 11 181 3 0 0 0 0 zrecv0), none, none, some (zo_if zd_eq 36 14), none, none, some (zo_loadA 15 0), some (zo_get 18 8 49)],
  [none, none, some (zo_loadI 19 1), some (zo_bald 20), some (zo_if zd_eq 36 23), none, none, none, none, none, none, none, none, none, none, none],
  [none, none, none, none, some (zo_push 37 (.inl ((.ofNat 0, .ofNat 0), none))), some (zo_ret1 0 0 2), none, none, none, none, none, none, none, none, none, none],
  [none, none, none, none, none, none, none, none, none, none, none, none, none, none, none, none],
  [none, none, none, none, none, none, none, none, none, none, none, none]]
noncomputable def mX8_again : zM := (yX8_again, cX8_again, 3, (some .boolean), 0, 0, kX8_again)
noncomputable def kX8_areTwo : zCode := [[some (zo_loadA 1 0), some (zo_loadI 2 1), some (zo_call 5 185 2 0 0 0 0 (zrecv 8)), none, none, some (zo_if zd_eq 25 8), none, none, none, none, none, none, none, none, none, none],
  [none, none, none, none, none, none, none, none, none, some (zo_push 26 (.inl ((.ofNat 0, .ofNat 0), none))), some (zo_ret1 0 0 2)]]
noncomputable def mX8_areTwo : zM := (yX8_areTwo, cX8_areTwo, 3, (some .boolean), 0, 0, kX8_areTwo)
noncomputable def kX8_ask : zCode := [[some (zo_loadA 1 0), some (zo_push 2 (.inl ((.ofNat 0, .ofNat 0), none))), some (zo_put 5 8 11 0), none, none, some (zo_loadA 6 0), some (zo_push 7 (.inl ((.negSucc 0, .negSucc 0), none))), some (zo_push 8 (.inl ((.negSucc 0, .negSucc 0), none))), some (zo_call 11 167 3 0 0 0 0 (zrecv 8)), none, none, some (zo_if zd_ne 17 14), none, none, some (zo_push 16 (.inl ((.negSucc 1, .negSucc 1), none))), none],
  [some (zo_ret1 0 0 0), none, none, none, none, none, none, none, none, none, none, none, none, none, none, none],
  [none, none, none, none, none, none, none, none, none, none, none, none, none, none, none, none],
  [none, none, none, none, none, none, none, none, none, none, none, none, none, none, none, none],
  [none, none, none, none, none, none, none, none, none, none, none, none, none, none, none, none],
  [none, none, none, none, none, none, none, none, none, none, none, none, none, none, none, none],
  [none, none, none, none]]
noncomputable def mX8_ask : zM := (yX8_ask, cX8_ask, 6, (some .int), 0, 0, kX8_ask)
noncomputable def kX8_away : zCode := [[some (zo_loadA 1 0), some (zo_push 2 (.inl ((.ofNat 0, .ofNat 0), none))), some (zo_put 5 8 11 0), none, none, some (zo_loadA 6 0), some (zo_call 9 192 1 0 0 0 0 (zrecv 8)), none, none, some (zo_push 10 (.inl ((.ofNat 1, .ofNat 1), none))), some (zo_loadA 11 0), some (zo_get 14 8 3), none, none, some (zo_i2 15 zi_shl), some (zo_push 16 (.inl ((.ofNat 1, .ofNat 1), none)))],
  [some (zo_sub 17), some (zo_loadA 18 0), some (zo_loadA 19 0), some (zo_get 22 8 0), none, none, some (zo_call 25 180 2 0 0 0 0 (zrecv 8)), none, none, some (zo_push 26 (.inl ((.negSucc 0, .negSucc 0), none))), some (zo_i2 27 zi_xor), some (zo_i2 28 zi_and), some (zo_stI 29 1), some (zo_push 30 (.inl ((.negSucc 0, .negSucc 0), none))), some (zo_stI 31 2), some (zo_push 32 (.inl ((.ofNat 0, .ofNat 0), none)))],
  [some (zo_stI 33 3), some (zo_loadI 34 3), some (zo_loadI 35 1), some (zo_ic zc_gt 86 38), none, none, some (zo_loadI 39 3), some (zo_loadI 40 1), some (zo_push 41 (.inl ((.negSucc 0, .negSucc 0), none))), some (zo_i2 42 zi_xor), some (zo_i2 43 zi_and), some (zo_if zd_ne 80 46), none, none, some (zo_loadA 47 0), some (zo_get 50 8 41)],
  [none, none, some (zo_loadI 51 1), some (zo_loadI 52 3), some (zo_push 53 (.inl ((.negSucc 0, .negSucc 0), none))), some (zo_i2 54 zi_xor), some (zo_i2 55 zi_and), some (zo_bald 56), some (zo_if zd_ne 62 59), none, none, some (zo_goto 80), none, none, none, none],
  [none, none, none, none, none, none, none, none, none, none, none, none, none, none, none, none],
  [some (zo_inc 83 3 (.ofNat 1)), none, none, some (zo_goto 33), none, none, some (zo_loadI 87 2), some (zo_push 88 (.inl ((.negSucc 0, .negSucc 0), none))), some (zo_ic zc_ne 94 91), none, none, some (zo_push 93 (.inl ((.negSucc 1, .negSucc 1), none))), none, some (zo_ret1 0 0 0), none, none],
  [none, none, none, none, none, none, none, none, none, none, none, none, none, none]]
noncomputable def mX8_away : zM := (yX8_away, cX8_away, 4, (some .int), 0, 0, kX8_away)
noncomputable def kX8_bare : zCode := [[some (zo_loadA 1 0), some (zo_push 2 (.inl ((.ofNat 0, .ofNat 0), none))), some (zo_put 5 8 11 0), none, none, some (zo_loadA 6 0), some (zo_push 7 (.inl ((.negSucc 0, .negSucc 0), none))), some (zo_call 10 194 2 0 0 0 0 (zrecv 8)), none, none, some (zo_loadA 11 0), some (zo_push 12 (.inl ((.ofNat 2, .ofNat 2), none))), some (zo_call 15 218 2 0 0 0 0 (zrecv 8)), none, none, some (zo_pop 16)],
  [some (zo_push 17 (.inl ((.negSucc 0, .negSucc 0), none))), some (zo_stI 18 1), some (zo_push 19 (.inl ((.ofNat 1, .ofNat 1), none))), some (zo_stI 20 2), some (zo_loadI 21 2), some (zo_loadA 22 0), some (zo_call 25 199 1 0 0 0 0 (zrecv 8)), none, none, some (zo_ic zc_gt 63 28), none, none, some (zo_loadA 29 0), some (zo_get 32 8 37), none, none],
  [some (zo_loadI 33 2), some (zo_ald 34 0), some (zo_push 36 (.inl ((.ofNat 1000000000, .ofNat 1000000000), none))), none, some (zo_ic zc_ne 57 39), none, none, some (zo_loadI 40 1), some (zo_push 41 (.inl ((.negSucc 0, .negSucc 0), none))), some (zo_ic zeqn 55 44), none, none, some (zo_loadI 45 2), some (zo_call 48 14 1 0 0 0 0 zrecv0), none, none],
  [some (zo_loadI 49 1), some (zo_call 52 14 1 0 0 0 0 zrecv0), none, none, some (zo_ic zc_ge 57 55), none, none, some (zo_loadI 56 2), some (zo_stI 57 1), some (zo_inc 60 2 (.ofNat 1)), none, none, some (zo_goto 20), none, none, some (zo_loadI 64 1)],
  [some (zo_push 65 (.inl ((.negSucc 0, .negSucc 0), none))), some (zo_ic zc_ne 71 68), none, none, none, none, none, some (zo_loadA 72 0), some (zo_push 73 (.inl ((.ofNat 0, .ofNat 0), none))), some (zo_put 76 8 10 0), none, none, some (zo_loadA 77 0), some (zo_loadI 78 1), some (zo_i2l 79), some (zo_call 82 222 2 0 0 0 0 (zrecv 8))],
  [none, none, some (zo_loadI 83 1), some (zo_call 86 14 1 0 0 0 0 zrecv0), none, none, some (zo_ret1 0 0 0)]]
noncomputable def mX8_bare : zM := (yX8_bare, cX8_bare, 3, (some .int), 0, 0, kX8_bare)
noncomputable def kX8_begin : zCode := [[some (zo_loadA 1 0), some (zo_loadA 2 1), some (zo_put 5 8 12 3), none, none, some (zo_loadA 6 0), some (zo_loadI 7 2), some (zo_put 10 8 13 0), none, none, some (zo_loadA 11 0), some (zo_loadI 12 3), some (zo_put 15 8 14 0), none, none, some (zo_loadA 16 0)],
  [some (zo_push 17 (.inl ((.ofNat 0, .ofNat 0), none))), some (zo_put 20 8 15 0), none, none, some (zo_loadA 21 0), some (zo_push 22 (.inl ((.negSucc 0, .negSucc 0), none))), some (zo_put 25 8 16 0), none, none, some (zo_ret0 0 0)]]
noncomputable def mX8_begin : zM := (yX8_begin, cX8_begin, 4, none, 0, 0, kX8_begin)
noncomputable def kX8_beginText : zCode := [[some (zo_loadA 1 0), some (zo_loadA 2 0), some (zo_get 5 8 7), none, none, some (zo_loadA 6 0), some (zo_get 9 8 8), none, none, some (zo_loadI 10 1), some (zo_call 13 150 4 0 0 0 0 (zrecv 8)), none, none, some (zo_loadA 14 0), some (zo_push 15 (.inl ((.ofNat 0, .ofNat 0), none))), some (zo_put 18 8 8 0)],
  [none, none, some (zo_ret0 0 0)]]
noncomputable def mX8_beginText : zM := (yX8_beginText, cX8_beginText, 2, none, 0, 0, kX8_beginText)
noncomputable def kX8_changes : zCode := [[some (zo_loadA 1 0), some (zo_push 2 (.inl ((.ofNat 0, .ofNat 0), none))), some (zo_put 5 8 11 0), none, none, some (zo_push 6 (.inl ((.ofNat 0, .ofNat 0), none))), some (zo_stI 7 1), some (zo_push 8 (.inl ((.ofNat 0, .ofNat 0), none))), some (zo_stI 9 2), some (zo_push 10 (.inl ((.ofNat 0, .ofNat 0), none))), some (zo_stI 11 3), some (zo_push 12 (.inl ((.ofNat 1, .ofNat 1), none))), some (zo_stI 14 4), none, some (zo_loadI 16 4), none],
  [some (zo_loadA 17 0), some (zo_get 20 8 1), none, none, some (zo_ic zc_ge 116 23), none, none, some (zo_loadA 24 0), some (zo_get 27 8 0), none, none, some (zo_loadI 29 4), none, some (zo_push 30 (.inl ((.ofNat 1, .ofNat 1), none))), some (zo_sub 31), some (zo_ald 32 0)],
  [some (zo_stI 34 5), none, some (zo_loadA 35 0), some (zo_get 38 8 0), none, none, some (zo_loadI 40 4), none, some (zo_ald 41 0), some (zo_stI 43 6), none, some (zo_loadI 45 5), none, some (zo_push 46 (.inl ((.negSucc 0, .negSucc 0), none))), some (zo_ic zeqn 110 49), none],
  [none, none, none, none, none, none, none, none, none, none, none, none, none, none, none, none],
  [none, none, none, none, none, none, none, none, none, none, none, none, none, none, none, none],
  [none, none, none, none, none, none, none, none, none, none, none, none, none, none, none, none],
  [none, none, none, none, none, none, none, none, none, none, none, none, none, none, some (zo_inc 113 4 (.ofNat 1)), none],
  [none, some (zo_goto 14), none, none, some (zo_loadA 117 0), some (zo_push 118 (.inl ((.ofNat 0, .ofNat 0), none))), some (zo_put 121 8 10 0), none, none, some (zo_loadA 122 0), some (zo_loadI 123 2), some (zo_i2l 124), some (zo_call 127 222 2 0 0 0 0 (zrecv 8)), none, none, some (zo_loadA 128 0)],
  [some (zo_loadI 129 3), some (zo_i2l 130), some (zo_call 133 222 2 0 0 0 0 (zrecv 8)), none, none, some (zo_loadI 134 1), some (zo_ret1 0 0 0)]]
noncomputable def mX8_changes : zM := (yX8_changes, cX8_changes, 8, (some .int), 0, 0, kX8_changes)
noncomputable def kX8_common : zCode := [[some (zo_loadL 1 2), some (zo_push 2 (.inr (.inl (.ofNat 0, .ofNat 0)))), some (zo_lcmp 3), some (zo_if zd_ne 10 6), none, none, some (zo_loadL 7 0), some (zo_goto 17), none, none, some (zo_loadL 11 2), some (zo_loadL 12 0), some (zo_loadL 13 2), some (zo_l2d 14 zl_rem), some (zo_call 17 153 2 0 0 0 0 zrecv0), none],
  [none, some (zo_ret1 0 0 1)]]
noncomputable def mX8_common : zM := (yX8_common, cX8_common, 4, (some .long), 0, 0, kX8_common)
noncomputable def kX8_count : zCode := [[some (zo_loadA 1 0), some (zo_push 2 (.inl ((.ofNat 0, .ofNat 0), none))), some (zo_put 5 8 11 0), none, none, some (zo_loadI 6 1), some (zo_push 8 (.inl ((.ofNat 20, .ofNat 20), none))), none, some (zo_push 10 (.inl ((.ofNat 27, .ofNat 27), none))), none, some (zo_call 13 181 3 0 0 0 0 zrecv0), none, none, some (zo_if zd_eq 26 16), none, none],
  [some (zo_loadA 17 0), some (zo_get 20 8 0), none, none, some (zo_loadI 21 1), some (zo_push 23 (.inl ((.ofNat 20, .ofNat 20), none))), none, some (zo_sub 24), some (zo_ald 25 0), some (zo_ret1 0 0 0), some (zo_loadI 27 1), some (zo_tab (.ofNat 0) [88, 93, 98, 103, 112, 120, 128, 136, 145, 150, 155, 160] 165), none, none, none, none],
  [none, none, none, none, none, none, none, none, none, none, none, none, none, none, none, none],
  [none, none, none, none, none, none, none, none, none, none, none, none, none, none, none, none],
  [none, none, none, none, none, none, none, none, none, none, none, none, none, none, none, none],
  [none, none, none, none, none, none, none, none, some (zo_loadA 89 0), some (zo_get 92 8 1), none, none, some (zo_ret1 0 0 0), some (zo_loadA 94 0), some (zo_get 97 8 2), none],
  [none, some (zo_ret1 0 0 0), some (zo_loadA 99 0), some (zo_get 102 8 3), none, none, some (zo_ret1 0 0 0), some (zo_loadA 104 0), some (zo_loadA 105 0), some (zo_get 108 8 0), none, none, some (zo_call 111 180 2 0 0 0 0 (zrecv 8)), none, none, some (zo_ret1 0 0 0)],
  [some (zo_loadA 113 0), some (zo_get 116 8 0), none, none, some (zo_push 118 (.inl ((.ofNat 24, .ofNat 24), none))), none, some (zo_ald 119 0), some (zo_ret1 0 0 0), some (zo_loadA 121 0), some (zo_get 124 8 0), none, none, some (zo_push 126 (.inl ((.ofNat 25, .ofNat 25), none))), none, some (zo_ald 127 0), some (zo_ret1 0 0 0)],
  [some (zo_loadA 129 0), some (zo_get 132 8 0), none, none, some (zo_push 134 (.inl ((.ofNat 26, .ofNat 26), none))), none, some (zo_ald 135 0), some (zo_ret1 0 0 0), some (zo_loadA 137 0), some (zo_loadA 138 0), some (zo_get 141 8 0), none, none, some (zo_call 144 227 2 0 0 0 0 (zrecv 8)), none, none],
  [some (zo_ret1 0 0 0), some (zo_loadA 146 0), some (zo_get 149 8 45), none, none, some (zo_ret1 0 0 0), some (zo_loadA 151 0), some (zo_get 154 8 24), none, none, some (zo_ret1 0 0 0), some (zo_loadA 156 0), some (zo_get 159 8 10), none, none, some (zo_ret1 0 0 0)],
  [some (zo_loadA 161 0), some (zo_get 164 8 8), none, none, some (zo_ret1 0 0 0), some (zo_push 167 (.inl ((.negSucc 99, .negSucc 99), none))), none, some (zo_ret1 0 0 0)]]
noncomputable def mX8_count : zM := (yX8_count, cX8_count, 2, (some .int), 0, 0, kX8_count)
noncomputable def kX8_countWays : zCode := [[some (zo_push 1 (.inl ((.ofNat 0, .ofNat 0), none))), some (zo_stI 2 1), some (zo_loadI 3 1), some (zo_loadA 4 0), some (zo_call 7 199 1 0 0 0 0 (zrecv 8)), none, none, some (zo_ic zc_gt 39 10), none, none, some (zo_loadA 11 0), some (zo_get 14 8 38), none, none, some (zo_loadA 15 0), some (zo_get 18 8 3)],
  [none, none, some (zo_push 20 (.inl ((.ofNat 8, .ofNat 8), none))), none, some (zo_i2 21 zi_shl), some (zo_loadI 22 1), some (zo_i2 23 zi_or), some (zo_loadI 24 1), some (zo_if zd_ne 31 27), none, none, some (zo_push 28 (.inl ((.ofNat 1, .ofNat 1), none))), some (zo_goto 32), none, none, some (zo_push 32 (.inl ((.ofNat 0, .ofNat 0), none)))],
  [some (zo_ast 33 0), some (zo_inc 36 1 (.ofNat 1)), none, none, some (zo_goto 2), none, none, some (zo_loadA 40 0), some (zo_get 43 8 3), none, none, some (zo_push 44 (.inl ((.ofNat 1, .ofNat 1), none))), some (zo_sub 45), some (zo_stI 46 1), some (zo_loadI 47 1), some (zo_if zd_lt 197 50)],
  [none, none, none, none, none, none, none, none, none, none, none, none, none, none, none, none],
  [none, none, none, none, none, none, none, none, none, none, none, none, none, none, none, none],
  [none, none, none, none, none, none, none, none, none, none, none, none, none, none, none, none],
  [none, none, none, none, none, none, none, none, none, none, none, none, none, none, none, none],
  [none, none, none, none, none, none, none, none, none, none, none, none, none, none, none, none],
  [none, none, none, none, none, none, none, none, none, none, none, none, none, none, none, none],
  [none, none, none, none, none, none, none, none, none, none, none, none, none, none, none, none],
  [none, none, none, none, none, none, none, none, none, none, none, none, none, none, none, none],
  [none, none, none, none, none, none, none, none, none, none, none, none, none, none, none, none],
  [none, none, none, none, none, some (zo_loadA 198 0), some (zo_get 201 8 38), none, none, some (zo_loadA 202 0), some (zo_call 205 199 1 0 0 0 0 (zrecv 8)), none, none, some (zo_ald 206 0), some (zo_ret1 0 0 0)]]
noncomputable def mX8_countWays : zM := (yX8_countWays, cX8_countWays, 5, (some .int), 0, 0, kX8_countWays)
noncomputable def kX8_draw : zCode := [[some (zo_loadA 1 0), some (zo_loadA 2 0), some (zo_get 5 8 46), none, none, some (zo_push 8 (.inl ((.ofNat 1103515245, .ofNat 1103515245), none))), none, none, some (zo_i2 9 zi_mul), some (zo_push 12 (.inl ((.ofNat 12345, .ofNat 12345), none))), none, none, some (zo_add 13), some (zo_put 16 8 46 0), none, none],
  [some (zo_loadA 17 0), some (zo_get 20 8 46), none, none, some (zo_push 22 (.inl ((.ofNat 16, .ofNat 16), none))), none, some (zo_i2 23 zi_ushr), some (zo_loadI 24 1), some (zo_i2d 25 zi_rem), some (zo_ret1 0 0 0)]]
noncomputable def mX8_draw : zM := (yX8_draw, cX8_draw, 2, (some .int), 0, 0, kX8_draw)
noncomputable def kX8_easiest : zCode := [[some (zo_loadA 1 0), some (zo_push 2 (.inl ((.ofNat 0, .ofNat 0), none))), some (zo_put 5 8 11 0), none, none, some (zo_loadA 6 0), some (zo_push 7 (.inl ((.negSucc 0, .negSucc 0), none))), some (zo_call 10 158 2 0 0 0 0 (zrecv 8)), none, none, some (zo_stI 11 1), some (zo_loadI 12 1), some (zo_push 14 (.inl ((.ofNat 1000000000, .ofNat 1000000000), none))), none, some (zo_ic zc_ne 20 17), none],
  [none, some (zo_push 19 (.inl ((.negSucc 1, .negSucc 1), none))), none, some (zo_ret1 0 0 0), none, none, none, none, none, none, none, none, none, none, none, none]]
noncomputable def mX8_easiest : zM := (yX8_easiest, cX8_easiest, 2, (some .int), 0, 0, kX8_easiest)
noncomputable def kX8_easiestBut : zCode := [[some (zo_loadA 1 0), some (zo_loadI 2 1), some (zo_call 5 194 2 0 0 0 0 (zrecv 8)), none, none, some (zo_loadA 6 0), some (zo_push 7 (.inl ((.ofNat 0, .ofNat 0), none))), some (zo_call 10 218 2 0 0 0 0 (zrecv 8)), none, none, some (zo_ret1 0 0 0)]]
noncomputable def mX8_easiestBut : zM := (yX8_easiestBut, cX8_easiestBut, 2, (some .int), 0, 0, kX8_easiestBut)
noncomputable def kX8_end : zCode := [[some (zo_loadA 1 0), some (zo_push 2 (.inl ((.ofNat 0, .ofNat 0), none))), some (zo_put 5 8 11 0), none, none, some (zo_loadI 6 1), some (zo_push 7 (.inl ((.ofNat 0, .ofNat 0), none))), some (zo_loadA 8 0), some (zo_get 11 8 8), none, none, some (zo_call 14 181 3 0 0 0 0 zrecv0), none, none, some (zo_if zd_ne 19 17), none],
  [none, some (zo_push 18 (.inl ((.ofNat 0, .ofNat 0), none))), some (zo_ret1 0 0 2), some (zo_loadA 20 0), some (zo_loadI 21 1), some (zo_put 24 8 8 0), none, none, some (zo_push 25 (.inl ((.ofNat 1, .ofNat 1), none))), some (zo_ret1 0 0 2)]]
noncomputable def mX8_end : zM := (yX8_end, cX8_end, 2, (some .boolean), 0, 0, kX8_end)
noncomputable def kX8_fairest : zCode := [[some (zo_loadA 1 0), some (zo_push 2 (.inl ((.ofNat 0, .ofNat 0), none))), some (zo_put 5 8 11 0), none, none, some (zo_loadA 6 0), some (zo_push 7 (.inl ((.negSucc 0, .negSucc 0), none))), some (zo_call 10 194 2 0 0 0 0 (zrecv 8)), none, none, some (zo_push 11 (.inl ((.negSucc 0, .negSucc 0), none))), some (zo_stI 12 1), some (zo_push 15 (.inl ((.ofNat 3997, .ofNat 3997), none))), none, none, some (zo_stI 16 2)],
  [some (zo_loadI 17 2), some (zo_loadI 18 1), some (zo_sub 19), some (zo_push 20 (.inl ((.ofNat 1, .ofNat 1), none))), some (zo_ic zc_le 58 23), none, none, some (zo_loadA 24 0), some (zo_loadI 25 1), some (zo_loadI 26 2), some (zo_add 27), some (zo_push 28 (.inl ((.ofNat 2, .ofNat 2), none))), some (zo_i2d 29 zi_div), some (zo_put 32 8 39 0), none, none],
  [some (zo_loadA 33 0), some (zo_push 34 (.inl ((.ofNat 0, .ofNat 0), none))), some (zo_call 37 218 2 0 0 0 0 (zrecv 8)), none, none, some (zo_push 39 (.inl ((.ofNat 1000000000, .ofNat 1000000000), none))), none, some (zo_ic zc_ge 50 42), none, none, none, none, none, none, none, none],
  [none, none, some (zo_loadA 51 0), some (zo_get 54 8 39), none, none, some (zo_stI 55 1), some (zo_goto 16), none, none, some (zo_loadA 59 0), some (zo_loadI 60 2), some (zo_put 63 8 39 0), none, none, some (zo_loadA 64 0)],
  [some (zo_push 65 (.inl ((.ofNat 0, .ofNat 0), none))), some (zo_call 68 218 2 0 0 0 0 (zrecv 8)), none, none, some (zo_stI 69 3), some (zo_loadA 70 0), some (zo_push 72 (.inl ((.ofNat 1000000000, .ofNat 1000000000), none))), none, some (zo_put 75 8 39 0), none, none, some (zo_loadI 76 3), some (zo_push 78 (.inl ((.ofNat 1000000000, .ofNat 1000000000), none))), none, some (zo_ic zc_ne 84 81), none],
  [none, some (zo_push 83 (.inl ((.negSucc 1, .negSucc 1), none))), none, some (zo_ret1 0 0 0), none, none, none, none, none, none, none, none, none, none, none, none],
  [none]]
noncomputable def mX8_fairest : zM := (yX8_fairest, cX8_fairest, 4, (some .int), 0, 0, kX8_fairest)
noncomputable def kX8_fault : zCode := [[some (zo_loadA 1 0), some (zo_call 4 163 1 0 0 0 0 (zrecv 8)), none, none, some (zo_if zd_eq 12 7), none, none, some (zo_loadA 8 0), some (zo_loadI 9 1), some (zo_put 12 8 16 0), none, none, some (zo_ret0 0 0)]]
noncomputable def mX8_fault : zM := (yX8_fault, cX8_fault, 2, none, 0, 0, kX8_fault)
noncomputable def kX8_fewest : zCode := [[some (zo_loadA 1 0), some (zo_push 2 (.inl ((.ofNat 0, .ofNat 0), none))), some (zo_put 5 8 11 0), none, none, some (zo_loadA 6 0), some (zo_call 9 192 1 0 0 0 0 (zrecv 8)), none, none, some (zo_push 10 (.inl ((.negSucc 0, .negSucc 0), none))), some (zo_stI 11 1), some (zo_push 12 (.inl ((.ofNat 0, .ofNat 0), none))), some (zo_stI 13 2), some (zo_loadI 14 2), some (zo_push 15 (.inl ((.ofNat 1, .ofNat 1), none))), some (zo_loadA 16 0)],
  [some (zo_get 19 8 3), none, none, some (zo_i2 20 zi_shl), some (zo_ic zc_ge 56 23), none, none, some (zo_loadA 24 0), some (zo_get 27 8 41), none, none, some (zo_loadI 28 2), some (zo_bald 29), some (zo_if zd_eq 50 32), none, none],
  [none, none, none, none, none, none, none, none, none, none, none, none, none, none, none, none],
  [none, none, some (zo_inc 53 2 (.ofNat 1)), none, none, some (zo_goto 13), none, none, some (zo_loadI 57 1), some (zo_push 58 (.inl ((.negSucc 0, .negSucc 0), none))), some (zo_ic zc_ne 64 61), none, none, some (zo_push 63 (.inl ((.negSucc 1, .negSucc 1), none))), none, some (zo_ret1 0 0 0)],
  [none, none, none, none, none, none, none, none, none, none, none, none, none, none, none, none]]
noncomputable def mX8_fewest : zM := (yX8_fewest, cX8_fewest, 3, (some .int), 0, 0, kX8_fewest)
noncomputable def kX8_fine : zCode := [[some (zo_loadA 1 0), some (zo_get 4 8 16), none, none, some (zo_push 5 (.inl ((.negSucc 0, .negSucc 0), none))), some (zo_ic zc_ne 12 8), none, none, some (zo_push 9 (.inl ((.ofNat 1, .ofNat 1), none))), some (zo_goto 13), none, none, some (zo_push 13 (.inl ((.ofNat 0, .ofNat 0), none))), some (zo_ret1 0 0 2)]]
noncomputable def mX8_fine : zM := (yX8_fine, cX8_fine, 1, (some .boolean), 0, 0, kX8_fine)
noncomputable def kX8_first : zCode := [[some (zo_loadA 1 0), some (zo_push 2 (.inl ((.ofNat 0, .ofNat 0), none))), some (zo_put 5 8 11 0), none, none, some (zo_loadI 6 1), some (zo_push 7 (.inl ((.ofNat 1, .ofNat 1), none))), some (zo_push 9 (.inl ((.ofNat 60, .ofNat 60), none))), none, some (zo_call 12 181 3 0 0 0 0 zrecv0), none, none, some (zo_if zd_ne 17 15), none, none, some (zo_push 16 (.inl ((.negSucc 0, .negSucc 0), none)))],
  [some (zo_ret1 0 0 0), some (zo_loadA 18 0), some (zo_get 21 8 0), none, none, some (zo_loadA 22 0), some (zo_get 25 8 26), none, none, some (zo_push 26 (.inl ((.ofNat 0, .ofNat 0), none))), some (zo_call 29 191 3 0 0 0 0 zrecv0), none, none, some (zo_push 30 (.inl ((.ofNat 0, .ofNat 0), none))), some (zo_stI 31 2), some (zo_loadI 32 2)],
  [some (zo_loadI 33 1), some (zo_ic zc_ge 79 36), none, none, some (zo_loadA 37 0), some (zo_loadA 38 0), some (zo_get 41 8 26), none, none, some (zo_call 44 172 2 0 0 0 0 (zrecv 8)), none, none, some (zo_loadA 45 0), some (zo_get 48 8 27), none, none],
  [some (zo_if zd_ne 54 51), none, none, none, none, none, some (zo_loadA 55 0), some (zo_push 56 (.inl ((.ofNat 0, .ofNat 0), none))), some (zo_put 59 8 10 0), none, none, some (zo_loadA 60 0), some (zo_loadA 61 0), some (zo_get 64 8 27), none, none],
  [some (zo_call 67 15 1 0 0 0 0 zrecv0), none, none, some (zo_i2l 68), some (zo_call 71 222 2 0 0 0 0 (zrecv 8)), none, none, some (zo_loadI 72 2), some (zo_ret1 0 0 0), none, none, none, none, none, none, none],
  [none, none]]
noncomputable def mX8_first : zM := (yX8_first, cX8_first, 3, (some .int), 0, 0, kX8_first)
noncomputable def kX8_firstGets : zCode := [[some (zo_loadI 1 0), some (zo_loadI 2 1), some (zo_ic zc_lt 11 5), none, none, some (zo_loadI 6 2), some (zo_loadI 7 1), some (zo_sub 8), some (zo_goto 12), none, none, some (zo_push 12 (.inl ((.ofNat 0, .ofNat 0), none))), some (zo_ret1 0 0 0)]]
noncomputable def mX8_firstGets : zM := (yX8_firstGets, cX8_firstGets, 3, (some .int), 0, 0, kX8_firstGets)
noncomputable def kX8_fits : zCode := [[some (zo_loadA 1 0), some (zo_push 2 (.inl ((.ofNat 0, .ofNat 0), none))), some (zo_put 5 8 11 0), none, none, some (zo_loadA 6 0), some (zo_push 7 (.inl ((.negSucc 0, .negSucc 0), none))), some (zo_push 8 (.inl ((.negSucc 0, .negSucc 0), none))), some (zo_call 11 167 3 0 0 0 0 (zrecv 8)), none, none, some (zo_stI 12 1), some (zo_loadA 13 0), some (zo_push 14 (.inl ((.ofNat 0, .ofNat 0), none))), some (zo_put 17 8 10 0), none],
  [none, some (zo_loadI 18 1), some (zo_if zd_ne 25 21), none, none, some (zo_push 22 (.inl ((.ofNat 0, .ofNat 0), none))), some (zo_goto 29), none, none, none, none, none, none, some (zo_ret1 0 0 0)]]
noncomputable def mX8_fits : zM := (yX8_fits, cX8_fits, 2, (some .int), 0, 0, kX8_fits)
noncomputable def kX8_fitting : zCode := [[some (zo_loadA 1 0), some (zo_call 4 193 1 0 0 0 0 (zrecv 8)), none, none, some (zo_loadI 5 1), some (zo_push 6 (.inl ((.negSucc 0, .negSucc 0), none))), some (zo_ic zeqn 15 9), none, none, none, none, none, none, none, none, some (zo_push 16 (.inl ((.ofNat 0, .ofNat 0), none)))],
  [some (zo_stI 17 3), some (zo_loadI 18 3), some (zo_loadA 19 0), some (zo_get 22 8 3), none, none, some (zo_ic zc_ge 41 25), none, none, none, none, none, none, none, none, none],
  [none, none, none, none, none, none, none, none, none, some (zo_loadA 42 0), some (zo_call 45 155 1 0 0 0 0 (zrecv 8)), none, none, some (zo_ret1 0 0 0)]]
noncomputable def mX8_fitting : zM := (yX8_fitting, cX8_fitting, 4, (some .int), 0, 0, kX8_fitting)
noncomputable def kX8_forget : zCode := [[some (zo_loadA 1 0), some (zo_push 2 (.inl ((.ofNat 0, .ofNat 0), none))), some (zo_put 5 8 11 0), none, none, some (zo_loadA 6 0), some (zo_get 9 8 45), none, none, some (zo_stI 10 1), some (zo_loadA 11 0), some (zo_push 12 (.inl ((.ofNat 0, .ofNat 0), none))), some (zo_put 15 8 45 0), none, none, some (zo_loadI 16 1)],
  [some (zo_ret1 0 0 0)]]
noncomputable def mX8_forget : zM := (yX8_forget, cX8_forget, 2, (some .int), 0, 0, kX8_forget)
noncomputable def kX8_found : zCode := [[some (zo_loadA 1 0), some (zo_push 2 (.inl ((.ofNat 0, .ofNat 0), none))), some (zo_put 5 8 11 0), none, none, some (zo_loadI 6 1), some (zo_call 9 184 1 0 0 0 0 zrecv0), none, none, some (zo_if zd_eq 38 12), none, none, some (zo_loadA 13 0), some (zo_loadI 14 2), some (zo_call 17 185 2 0 0 0 0 (zrecv 8)), none],
  [none, some (zo_if zd_eq 38 20), none, none, none, none, none, none, none, none, none, none, none, none, none, none],
  [none, none, none, none, none, none, some (zo_push 39 (.inl ((.negSucc 0, .negSucc 0), none))), some (zo_ret1 0 0 0), none, none, none, none, none, none, none, none],
  [none, none, none, none, none, none, none, none, none, none, none, none, none, none, none, none],
  [none, none, none, none, none, none, none, none, none, none, none, none, none, none, none, none],
  [none, none, none, none, none, none, none, none, none, none, none, none, none, none, none, none],
  [none, none, none]]
noncomputable def mX8_found : zM := (yX8_found, cX8_found, 4, (some .int), 0, 0, kX8_found)
noncomputable def kX8_gaps : zCode := [[some (zo_loadA 1 0), some (zo_push 2 (.inl ((.ofNat 0, .ofNat 0), none))), some (zo_put 5 8 11 0), none, none, some (zo_loadA 6 0), some (zo_get 9 8 0), none, none, some (zo_loadA 10 0), some (zo_get 13 8 26), none, none, some (zo_push 14 (.inl ((.ofNat 0, .ofNat 0), none))), some (zo_call 17 191 3 0 0 0 0 zrecv0), none],
  [none, some (zo_loadA 18 0), some (zo_loadA 19 0), some (zo_get 22 8 26), none, none, some (zo_call 25 172 2 0 0 0 0 (zrecv 8)), none, none, some (zo_loadA 26 0), some (zo_push 27 (.inl ((.ofNat 0, .ofNat 0), none))), some (zo_put 30 8 10 0), none, none, some (zo_loadA 31 0), some (zo_loadA 32 0)],
  [some (zo_get 35 8 27), none, none, some (zo_call 38 14 1 0 0 0 0 zrecv0), none, none, some (zo_i2l 39), some (zo_call 42 222 2 0 0 0 0 (zrecv 8)), none, none, some (zo_loadA 43 0), some (zo_loadA 44 0), some (zo_get 47 8 28), none, none, some (zo_i2l 48)],
  [some (zo_call 51 222 2 0 0 0 0 (zrecv 8)), none, none, some (zo_loadA 52 0), some (zo_get 55 8 27), none, none, some (zo_ret1 0 0 0)]]
noncomputable def mX8_gaps : zM := (yX8_gaps, cX8_gaps, 1, (some .int), 0, 0, kX8_gaps)
noncomputable def kX8_give : zCode := [[some (zo_loadA 1 0), some (zo_push 2 (.inl ((.ofNat 0, .ofNat 0), none))), some (zo_put 5 8 11 0), none, none, some (zo_loadA 6 0), some (zo_loadI 7 1), some (zo_loadI 8 2), some (zo_call 11 183 3 0 0 0 0 (zrecv 8)), none, none, some (zo_if zd_ne 17 14), none, none, some (zo_push 16 (.inl ((.negSucc 1, .negSucc 1), none))), none],
  [some (zo_ret1 0 0 0), some (zo_loadA 18 0), some (zo_loadA 19 0), some (zo_get 22 8 0), none, none, some (zo_call 25 205 2 0 0 0 0 (zrecv 8)), none, none, some (zo_loadA 26 0), some (zo_get 29 8 0), none, none, some (zo_loadI 30 1), some (zo_ald 31 0), some (zo_stI 32 3)],
  [some (zo_loadA 33 0), some (zo_get 36 8 0), none, none, some (zo_loadI 37 1), some (zo_loadI 38 2), some (zo_ast 39 0), some (zo_loadI 40 3), some (zo_ret1 0 0 0)]]
noncomputable def mX8_give : zM := (yX8_give, cX8_give, 4, (some .int), 0, 0, kX8_give)
noncomputable def kX8_goNight : zCode := [[some (zo_loadA 1 0), some (zo_push 2 (.inl ((.ofNat 0, .ofNat 0), none))), some (zo_put 5 8 27 0), none, none, some (zo_loadA 6 0), some (zo_push 7 (.inl ((.ofNat 0, .ofNat 0), none))), some (zo_put 10 8 28 0), none, none, some (zo_push 11 (.inl ((.ofNat 0, .ofNat 0), none))), some (zo_stI 12 2), some (zo_loadI 13 2), some (zo_push 15 (.inl ((.ofNat 8, .ofNat 8), none))), none, some (zo_ic zc_ge 38 18)],
  [none, none, some (zo_loadA 19 0), some (zo_get 22 8 29), none, none, some (zo_loadI 23 2), some (zo_push 24 (.inl ((.ofNat 0, .ofNat 0), none))), some (zo_ast 25 0), some (zo_loadA 26 0), some (zo_get 29 8 30), none, none, some (zo_loadI 30 2), some (zo_push 31 (.inl ((.ofNat 0, .ofNat 0), none))), some (zo_ast 32 0)],
  [some (zo_inc 35 2 (.ofNat 1)), none, none, some (zo_goto 12), none, none, some (zo_push 39 (.inl ((.negSucc 0, .negSucc 0), none))), some (zo_stI 40 2), some (zo_push 41 (.inl ((.ofNat 0, .ofNat 0), none))), some (zo_stI 42 3), some (zo_loadI 43 3), some (zo_loadA 44 0), some (zo_get 47 8 1), none, none, some (zo_ic zc_ge 235 50)],
  [none, none, some (zo_loadA 51 1), some (zo_loadI 52 3), some (zo_ald 53 0), some (zo_stI 55 4), none, some (zo_loadI 57 4), none, some (zo_push 58 (.inl ((.negSucc 0, .negSucc 0), none))), some (zo_ic zeqn 106 61), none, none, none, none, none],
  [none, none, none, none, none, none, none, none, none, none, none, none, none, none, none, none],
  [none, none, none, none, none, none, none, none, none, none, none, none, none, none, none, none],
  [none, none, none, none, none, none, none, none, none, none, some (zo_push 107 (.inl ((.ofNat 0, .ofNat 0), none))), some (zo_stI 109 5), none, some (zo_loadI 111 5), none, some (zo_if zd_eq 205 114)],
  [none, none, none, none, none, none, none, none, none, none, none, none, none, none, none, none],
  [none, none, none, none, none, none, none, none, none, none, none, none, none, none, none, none],
  [none, none, none, none, none, none, none, none, none, none, none, none, none, none, none, none],
  [none, none, none, none, none, none, none, none, none, none, none, none, none, none, none, none],
  [none, none, none, none, none, none, none, none, none, none, none, none, none, none, none, none],
  [none, none, none, none, none, none, none, none, none, none, none, none, none, some (zo_loadA 206 0), some (zo_dup 207), some (zo_get 210 8 27)],
  [none, none, some (zo_push 211 (.inl ((.ofNat 1, .ofNat 1), none))), some (zo_loadI 212 3), some (zo_i2 213 zi_shl), some (zo_i2 214 zi_or), some (zo_put 217 8 27 0), none, none, some (zo_loadI 219 5), none, some (zo_if zd_eq 227 222), none, none, none, none],
  [none, none, none, some (zo_push 228 (.inl ((.negSucc 0, .negSucc 0), none))), some (zo_stI 229 2), some (zo_inc 232 3 (.ofNat 1)), none, none, some (zo_goto 42), none, none, some (zo_push 236 (.inl ((.ofNat 0, .ofNat 0), none))), some (zo_stI 237 3), some (zo_loadI 238 3), some (zo_loadA 239 0), some (zo_get 242 8 3)],
  [none, none, some (zo_ic zc_ge 299 245), none, none, none, none, none, none, none, none, none, none, none, none, none],
  [none, none, none, none, none, none, none, none, none, none, none, none, none, none, none, none],
  [none, none, none, none, none, none, none, none, none, none, none, none, none, none, none, none],
  [none, none, none, none, none, none, none, none, none, none, none, some (zo_loadA 300 1), some (zo_push 302 (.inl ((.ofNat 25, .ofNat 25), none))), none, some (zo_dup2 303), some (zo_ald 304 0)],
  [some (zo_loadA 305 0), some (zo_get 308 8 27), none, none, some (zo_call 311 14 1 0 0 0 0 zrecv0), none, none, some (zo_add 312), some (zo_ast 313 0), some (zo_loadA 314 1), some (zo_push 316 (.inl ((.ofNat 26, .ofNat 26), none))), none, some (zo_dup2 317), some (zo_ald 318 0), some (zo_loadA 319 0), some (zo_get 322 8 28)],
  [none, none, some (zo_call 325 14 1 0 0 0 0 zrecv0), none, none, some (zo_add 326), some (zo_ast 327 0), some (zo_loadA 328 1), some (zo_push 330 (.inl ((.ofNat 24, .ofNat 24), none))), none, some (zo_dup2 331), some (zo_ald 332 0), some (zo_push 333 (.inl ((.ofNat 1, .ofNat 1), none))), some (zo_add 334), some (zo_ast 335 0), some (zo_ret0 0 0)]]
noncomputable def mX8_goNight : zM := (yX8_goNight, cX8_goNight, 6, none, 0, 0, kX8_goNight)
noncomputable def kX8_goNights : zCode := [[some (zo_push 1 (.inl ((.ofNat 0, .ofNat 0), none))), some (zo_stI 2 3), some (zo_loadI 3 3), some (zo_loadI 4 2), some (zo_ic zc_ge 18 7), none, none, some (zo_loadA 8 0), some (zo_loadA 9 1), some (zo_call 12 172 2 0 0 0 0 (zrecv 8)), none, none, some (zo_inc 15 3 (.ofNat 1)), none, none, some (zo_goto 2)],
  [none, none, some (zo_ret0 0 0)]]
noncomputable def mX8_goNights : zM := (yX8_goNights, cX8_goNights, 4, none, 0, 0, kX8_goNights)
noncomputable def kX8_hard : zCode := [[some (zo_loadA 1 0), some (zo_push 2 (.inl ((.ofNat 0, .ofNat 0), none))), some (zo_put 5 8 11 0), none, none, some (zo_loadA 6 0), some (zo_loadI 7 1), some (zo_call 10 185 2 0 0 0 0 (zrecv 8)), none, none, some (zo_if zd_eq 33 13), none, none, none, none, none],
  [none, none, none, none, none, none, none, none, none, none, none, none, none, none, none, none],
  [none, some (zo_push 34 (.inl ((.negSucc 0, .negSucc 0), none))), some (zo_ret1 0 0 0)]]
noncomputable def mX8_hard : zM := (yX8_hard, cX8_hard, 3, (some .int), 0, 0, kX8_hard)
noncomputable def kX8_hardOfRota : zCode := [[some (zo_push 1 (.inl ((.ofNat 0, .ofNat 0), none))), some (zo_stI 2 1), some (zo_push 3 (.inl ((.ofNat 0, .ofNat 0), none))), some (zo_stI 4 2), some (zo_loadI 5 2), some (zo_loadA 6 0), some (zo_get 9 8 1), none, none, some (zo_ic zc_ge 50 12), none, none, some (zo_loadI 13 1), some (zo_loadA 14 0), some (zo_get 17 8 0), none],
  [none, some (zo_loadI 18 2), some (zo_ald 19 0), some (zo_push 20 (.inl ((.negSucc 0, .negSucc 0), none))), some (zo_ic zc_ne 27 23), none, none, some (zo_push 24 (.inl ((.ofNat 0, .ofNat 0), none))), some (zo_goto 42), none, none, none, none, none, none, none],
  [none, none, none, none, none, none, none, none, none, none, some (zo_add 43), some (zo_stI 44 1), some (zo_inc 47 2 (.ofNat 1)), none, none, some (zo_goto 4)],
  [none, none, some (zo_loadI 51 1), some (zo_ret1 0 0 0)]]
noncomputable def mX8_hardOfRota : zM := (yX8_hardOfRota, cX8_hardOfRota, 3, (some .int), 0, 0, kX8_hardOfRota)
noncomputable def kX8_held : zCode := [[some (zo_loadA 1 0), some (zo_push 2 (.inl ((.ofNat 0, .ofNat 0), none))), some (zo_put 5 8 11 0), none, none, some (zo_loadI 6 1), some (zo_push 7 (.inl ((.ofNat 0, .ofNat 0), none))), some (zo_push 9 (.inl ((.ofNat 10, .ofNat 10), none))), none, some (zo_call 12 181 3 0 0 0 0 zrecv0), none, none, some (zo_if zd_ne 17 15), none, none, some (zo_push 16 (.inl ((.negSucc 0, .negSucc 0), none)))],
  [some (zo_ret1 0 0 0), some (zo_loadA 18 0), some (zo_call 21 192 1 0 0 0 0 (zrecv 8)), none, none, some (zo_loadA 22 0), some (zo_loadA 23 0), some (zo_loadA 24 0), some (zo_call 27 232 1 0 0 0 0 (zrecv 8)), none, none, some (zo_loadI 28 1), some (zo_call 31 177 3 0 0 0 0 (zrecv 8)), none, none, some (zo_push 34 (.inr (.inl (.ofNat 10, .ofNat 10))))],
  [none, none, some (zo_loadA 35 0), some (zo_call 38 232 1 0 0 0 0 (zrecv 8)), none, none, some (zo_call 41 14 1 0 0 0 0 zrecv0), none, none, some (zo_call 44 203 2 0 0 0 0 zrecv0), none, none, some (zo_call 47 223 3 0 0 0 0 (zrecv 8)), none, none, some (zo_push 48 (.inl ((.ofNat 0, .ofNat 0), none)))],
  [some (zo_ret1 0 0 0)]]
noncomputable def mX8_held : zM := (yX8_held, cX8_held, 2, (some .int), 0, 0, kX8_held)
noncomputable def kX8_heldParts : zCode := [[some (zo_push 1 (.inr (.inl (.ofNat 0, .ofNat 0)))), some (zo_stL 2 3), some (zo_loadI 3 1), some (zo_call 6 14 1 0 0 0 0 zrecv0), none, none, some (zo_stI 8 5), none, some (zo_push 9 (.inl ((.ofNat 0, .ofNat 0), none))), some (zo_stI 11 6), none, some (zo_loadI 13 6), none, some (zo_loadI 14 1), some (zo_ic zc_gt 76 17), none],
  [none, some (zo_loadI 19 6), none, some (zo_loadI 20 1), some (zo_push 21 (.inl ((.negSucc 0, .negSucc 0), none))), some (zo_i2 22 zi_xor), some (zo_i2 23 zi_and), some (zo_if zd_ne 70 26), none, none, some (zo_loadA 27 0), some (zo_get 30 8 41), none, none, some (zo_loadI 32 6), none],
  [some (zo_bald 33), some (zo_if zd_ne 39 36), none, none, some (zo_goto 70), none, none, none, none, none, none, none, none, none, none, none],
  [none, none, none, none, none, none, none, none, none, none, none, none, none, none, none, none],
  [none, none, none, none, none, none, some (zo_inc 73 6 (.ofNat 1)), none, none, some (zo_goto 11), none, none, some (zo_loadL 77 3), some (zo_ret1 0 0 1)]]
noncomputable def mX8_heldParts : zM := (yX8_heldParts, cX8_heldParts, 8, (some .long), 0, 0, kX8_heldParts)
noncomputable def kX8_here : zCode := [[some (zo_loadA 1 0), some (zo_get 4 8 15), none, none, some (zo_loadA 5 0), some (zo_get 8 8 13), none, none, some (zo_ic zc_ge 38 11), none, none, none, none, none, none, none],
  [none, none, none, none, none, none, none, none, none, none, none, none, none, none, none, none],
  [none, none, none, none, none, none, some (zo_push 39 (.inl ((.negSucc 0, .negSucc 0), none))), some (zo_ret1 0 0 0)]]
noncomputable def mX8_here : zM := (yX8_here, cX8_here, 1, (some .int), 0, 0, kX8_here)
noncomputable def kX8_ill : zCode := [[some (zo_loadA 1 0), some (zo_push 2 (.inl ((.ofNat 0, .ofNat 0), none))), some (zo_put 5 8 11 0), none, none, some (zo_loadA 6 0), some (zo_loadI 7 1), some (zo_call 10 185 2 0 0 0 0 (zrecv 8)), none, none, some (zo_if zd_ne 15 13), none, none, some (zo_push 14 (.inl ((.negSucc 0, .negSucc 0), none))), some (zo_ret1 0 0 0), none],
  [none, none, none, none, none, none, none, none, none, none, none, none, none, none, none, none],
  [none, none, none, none, none, none, none, none, none, none, none, none, none, none, none, none],
  [none, none, none, none, none, none, none]]
noncomputable def mX8_ill : zM := (yX8_ill, cX8_ill, 2, (some .int), 0, 0, kX8_ill)
noncomputable def kX8_illBits : zCode := [[some (zo_push 1 (.inl ((.ofNat 0, .ofNat 0), none))), some (zo_stI 2 2), some (zo_push 3 (.inl ((.ofNat 0, .ofNat 0), none))), some (zo_stI 4 3), some (zo_loadI 5 3), some (zo_loadA 6 0), some (zo_get 9 8 3), none, none, some (zo_ic zc_ge 29 12), none, none, none, none, none, none],
  [none, none, none, none, none, none, none, none, none, none, none, none, none, some (zo_loadI 30 2), some (zo_ret1 0 0 0)]]
noncomputable def mX8_illBits : zM := (yX8_illBits, cX8_illBits, 4, (some .int), 0, 0, kX8_illBits)
noncomputable def kX8_in : zCode := [[some (zo_loadI 1 0), some (zo_loadI 2 1), some (zo_ic zc_lt 14 5), none, none, some (zo_loadI 6 0), some (zo_loadI 7 2), some (zo_ic zc_gt 14 10), none, none, some (zo_push 11 (.inl ((.ofNat 1, .ofNat 1), none))), some (zo_goto 15), none, none, some (zo_push 15 (.inl ((.ofNat 0, .ofNat 0), none))), some (zo_ret1 0 0 2)]]
noncomputable def mX8_in : zM := (yX8_in, cX8_in, 3, (some .boolean), 0, 0, kX8_in)
noncomputable def kX8_init : zCode := [[some (zo_loadA 1 0), some (zo_objInit 4), none, none, some (zo_loadA 5 0), some (zo_push 7 (.inl ((.ofNat 27, .ofNat 27), none))), none, some (zo_newa 9 0 30 5942 (.inl ((.ofNat 0, .ofNat 0), none))), none, some (zo_put 12 8 0 3), none, none, some (zo_loadA 13 0), some (zo_push 15 (.inl ((.ofNat 8, .ofNat 8), none))), none, some (zo_put 18 8 1 0)],
  [none, none, some (zo_loadA 19 0), some (zo_push 20 (.inl ((.ofNat 4, .ofNat 4), none))), some (zo_put 23 8 2 0), none, none, some (zo_loadA 24 0), some (zo_push 26 (.inl ((.ofNat 8, .ofNat 8), none))), none, some (zo_newa 28 0 30 5942 (.inl ((.ofNat 0, .ofNat 0), none))), none, some (zo_put 31 8 4 3), none, none, some (zo_loadA 32 0)],
  [some (zo_push 34 (.inl ((.ofNat 8, .ofNat 8), none))), none, some (zo_newa 36 0 30 5942 (.inl ((.ofNat 0, .ofNat 0), none))), none, some (zo_put 39 8 5 3), none, none, some (zo_loadA 40 0), some (zo_push 42 (.inl ((.ofNat 8, .ofNat 8), none))), none, some (zo_newa 44 0 30 5942 (.inl ((.ofNat 0, .ofNat 0), none))), none, some (zo_put 47 8 6 3), none, none, some (zo_loadA 48 0)],
  [some (zo_push 50 (.inl ((.ofNat 80, .ofNat 80), none))), none, some (zo_newa 52 3 30 5942 (.inl ((.ofNat 0, .ofNat 0), none))), none, some (zo_put 55 8 7 3), none, none, some (zo_loadA 56 0), some (zo_push 58 (.inl ((.ofNat 16, .ofNat 16), none))), none, some (zo_newa 60 1 30 5942 (.inr (.inl (.ofNat 0, .ofNat 0)))), none, some (zo_put 63 8 9 3), none, none, some (zo_loadA 64 0)],
  [some (zo_push 66 (.inl ((.ofNat 24, .ofNat 24), none))), none, some (zo_newa 68 0 30 5942 (.inl ((.ofNat 0, .ofNat 0), none))), none, some (zo_put 71 8 17 3), none, none, some (zo_loadA 72 0), some (zo_push 74 (.inl ((.ofNat 40, .ofNat 40), none))), none, some (zo_newa 76 3 30 5942 (.inl ((.ofNat 0, .ofNat 0), none))), none, some (zo_put 79 8 18 3), none, none, some (zo_loadA 80 0)],
  [some (zo_push 82 (.inl ((.ofNat 40, .ofNat 40), none))), none, some (zo_newa 84 3 30 5942 (.inl ((.ofNat 0, .ofNat 0), none))), none, some (zo_put 87 8 19 3), none, none, some (zo_loadA 88 0), some (zo_push 90 (.inl ((.ofNat 7, .ofNat 7), none))), none, some (zo_newa 92 0 30 5942 (.inl ((.ofNat 0, .ofNat 0), none))), none, some (zo_put 95 8 22 3), none, none, some (zo_loadA 96 0)],
  [some (zo_push 99 (.inl ((.ofNat 324, .ofNat 324), none))), none, none, some (zo_newa 101 0 30 5942 (.inl ((.ofNat 0, .ofNat 0), none))), none, some (zo_put 104 8 23 3), none, none, some (zo_loadA 105 0), some (zo_push 107 (.inl ((.ofNat 27, .ofNat 27), none))), none, some (zo_newa 109 0 30 5942 (.inl ((.ofNat 0, .ofNat 0), none))), none, some (zo_put 112 8 25 3), none, none],
  [some (zo_loadA 113 0), some (zo_push 115 (.inl ((.ofNat 27, .ofNat 27), none))), none, some (zo_newa 117 0 30 5942 (.inl ((.ofNat 0, .ofNat 0), none))), none, some (zo_put 120 8 26 3), none, none, some (zo_loadA 121 0), some (zo_push 123 (.inl ((.ofNat 8, .ofNat 8), none))), none, some (zo_newa 125 0 30 5942 (.inl ((.ofNat 0, .ofNat 0), none))), none, some (zo_put 128 8 29 3), none, none],
  [some (zo_loadA 129 0), some (zo_push 131 (.inl ((.ofNat 8, .ofNat 8), none))), none, some (zo_newa 133 0 30 5942 (.inl ((.ofNat 0, .ofNat 0), none))), none, some (zo_put 136 8 30 3), none, none, some (zo_loadA 137 0), some (zo_push 140 (.inl ((.ofNat 240, .ofNat 240), none))), none, none, some (zo_newa 142 0 30 5942 (.inl ((.ofNat 0, .ofNat 0), none))), none, some (zo_put 145 8 31 3), none],
  [none, some (zo_loadA 146 0), some (zo_push 148 (.inl ((.ofNat 8, .ofNat 8), none))), none, some (zo_newa 150 0 30 5942 (.inl ((.ofNat 0, .ofNat 0), none))), none, some (zo_put 153 8 32 3), none, none, some (zo_loadA 154 0), some (zo_push 156 (.inl ((.ofNat 8, .ofNat 8), none))), none, some (zo_newa 158 0 30 5942 (.inl ((.ofNat 0, .ofNat 0), none))), none, some (zo_put 161 8 33 3), none],
  [none, some (zo_loadA 162 0), some (zo_push 164 (.inl ((.ofNat 8, .ofNat 8), none))), none, some (zo_newa 166 0 30 5942 (.inl ((.ofNat 0, .ofNat 0), none))), none, some (zo_put 169 8 34 3), none, none, some (zo_loadA 170 0), some (zo_push 172 (.inl ((.ofNat 8, .ofNat 8), none))), none, some (zo_newa 174 0 30 5942 (.inl ((.ofNat 0, .ofNat 0), none))), none, some (zo_put 177 8 35 3), none],
  [none, some (zo_loadA 178 0), some (zo_push 180 (.inl ((.ofNat 64, .ofNat 64), none))), none, some (zo_newa 182 0 30 5942 (.inl ((.ofNat 0, .ofNat 0), none))), none, some (zo_put 185 8 36 3), none, none, some (zo_loadA 186 0), some (zo_push 189 (.inl ((.ofNat 2304, .ofNat 2304), none))), none, none, some (zo_newa 191 0 30 5942 (.inl ((.ofNat 0, .ofNat 0), none))), none, some (zo_put 194 8 37 3)],
  [none, none, some (zo_loadA 195 0), some (zo_push 198 (.inl ((.ofNat 2304, .ofNat 2304), none))), none, none, some (zo_newa 200 0 30 5942 (.inl ((.ofNat 0, .ofNat 0), none))), none, some (zo_put 203 8 38 3), none, none, some (zo_loadA 204 0), some (zo_push 206 (.inl ((.ofNat 1000000000, .ofNat 1000000000), none))), none, some (zo_put 209 8 39 0), none],
  [none, some (zo_loadA 210 0), some (zo_push 212 (.inl ((.ofNat 8, .ofNat 8), none))), none, some (zo_newa 214 0 30 5942 (.inl ((.ofNat 0, .ofNat 0), none))), none, some (zo_put 217 8 40 3), none, none, some (zo_loadA 218 0), some (zo_push 221 (.inl ((.ofNat 256, .ofNat 256), none))), none, none, some (zo_newa 223 2 30 5942 (.inl ((.ofNat 0, .ofNat 0), none))), none, some (zo_put 226 8 41 3)],
  [none, none, some (zo_loadA 227 0), some (zo_push 229 (.inl ((.ofNat 12, .ofNat 12), none))), none, some (zo_newa 231 0 30 5942 (.inl ((.ofNat 0, .ofNat 0), none))), none, some (zo_put 234 8 42 3), none, none, some (zo_loadA 235 0), some (zo_push 237 (.inl ((.ofNat 12, .ofNat 12), none))), none, some (zo_newa 239 0 30 5942 (.inl ((.ofNat 0, .ofNat 0), none))), none, some (zo_put 242 8 43 3)],
  [none, none, some (zo_loadA 243 0), some (zo_push 245 (.inl ((.ofNat 54, .ofNat 54), none))), none, some (zo_newa 247 0 30 5942 (.inl ((.ofNat 0, .ofNat 0), none))), none, some (zo_put 250 8 48 3), none, none, some (zo_loadA 251 0), some (zo_push 252 (.inl ((.ofNat 2, .ofNat 2), none))), some (zo_newa 254 2 30 5942 (.inl ((.ofNat 0, .ofNat 0), none))), none, some (zo_put 257 8 49 3), none],
  [none, some (zo_loadA 258 0), some (zo_push 259 (.inl ((.ofNat 2, .ofNat 2), none))), some (zo_newa 261 0 30 5942 (.inl ((.ofNat 0, .ofNat 0), none))), none, some (zo_put 264 8 50 3), none, none, some (zo_push 265 (.inl ((.ofNat 0, .ofNat 0), none))), some (zo_stI 266 1), some (zo_loadI 267 1), some (zo_push 269 (.inl ((.ofNat 8, .ofNat 8), none))), none, some (zo_ic zc_ge 285 272), none, none],
  [some (zo_loadA 273 0), some (zo_get 276 8 0), none, none, some (zo_loadI 277 1), some (zo_push 278 (.inl ((.negSucc 0, .negSucc 0), none))), some (zo_ast 279 0), some (zo_inc 282 1 (.ofNat 1)), none, none, some (zo_goto 266), none, none, some (zo_ret0 30 5942)]]
noncomputable def mX8_init : zM := (yX8_init, cX8_init, 2, none, 30, 5942, kX8_init)
noncomputable def kX8_isGift : zCode := [[some (zo_loadI 1 1), some (zo_call 4 184 1 0 0 0 0 zrecv0), none, none, some (zo_if zd_eq 24 7), none, none, some (zo_loadI 8 2), some (zo_push 9 (.inl ((.negSucc 0, .negSucc 0), none))), some (zo_ic zeqn 20 12), none, none, some (zo_loadA 13 0), some (zo_loadI 14 2), some (zo_call 17 185 2 0 0 0 0 (zrecv 8)), none],
  [none, some (zo_if zd_eq 24 20), none, none, some (zo_push 21 (.inl ((.ofNat 1, .ofNat 1), none))), some (zo_goto 25), none, none, some (zo_push 25 (.inl ((.ofNat 0, .ofNat 0), none))), some (zo_ret1 0 0 2)]]
noncomputable def mX8_isGift : zM := (yX8_isGift, cX8_isGift, 3, (some .boolean), 0, 0, kX8_isGift)
noncomputable def kX8_isHour : zCode := [[some (zo_loadI 1 0), some (zo_push 2 (.inl ((.ofNat 0, .ofNat 0), none))), some (zo_push 4 (.inl ((.ofNat 7, .ofNat 7), none))), none, some (zo_call 7 181 3 0 0 0 0 zrecv0), none, none, some (zo_ret1 0 0 2)]]
noncomputable def mX8_isHour : zM := (yX8_isHour, cX8_isHour, 1, (some .boolean), 0, 0, kX8_isHour)
noncomputable def kX8_isMan : zCode := [[some (zo_loadI 1 1), some (zo_push 2 (.inl ((.ofNat 0, .ofNat 0), none))), some (zo_loadA 3 0), some (zo_get 6 8 3), none, none, some (zo_push 7 (.inl ((.ofNat 1, .ofNat 1), none))), some (zo_sub 8), some (zo_call 11 181 3 0 0 0 0 zrecv0), none, none, some (zo_ret1 0 0 2)]]
noncomputable def mX8_isMan : zM := (yX8_isMan, cX8_isMan, 2, (some .boolean), 0, 0, kX8_isMan)
noncomputable def kX8_isRest : zCode := [[some (zo_push 1 (.inl ((.ofNat 0, .ofNat 0), none))), some (zo_stI 3 4), none, some (zo_loadI 5 4), none, some (zo_push 7 (.inl ((.ofNat 9, .ofNat 9), none))), none, some (zo_ic zc_gt 50 10), none, none, some (zo_loadI 12 4), none, some (zo_loadI 13 1), some (zo_loadI 14 2), some (zo_call 17 165 3 0 0 0 0 zrecv0), none],
  [none, some (zo_loadI 18 0), some (zo_loadI 19 1), some (zo_loadI 20 2), some (zo_call 23 165 3 0 0 0 0 zrecv0), none, none, some (zo_ic zc_gt 42 26), none, none, some (zo_loadI 27 0), some (zo_loadI 29 4), none, some (zo_loadI 30 3), some (zo_call 33 201 3 0 0 0 0 zrecv0), none],
  [none, some (zo_loadI 34 0), some (zo_loadI 35 1), some (zo_loadI 36 3), some (zo_call 39 201 3 0 0 0 0 zrecv0), none, none, some (zo_ic zc_le 44 42), none, none, some (zo_push 43 (.inl ((.ofNat 0, .ofNat 0), none))), some (zo_ret1 0 0 2), some (zo_inc 47 4 (.ofNat 1)), none, none, some (zo_goto 3)],
  [none, none, some (zo_push 51 (.inl ((.ofNat 1, .ofNat 1), none))), some (zo_ret1 0 0 2)]]
noncomputable def mX8_isRest : zM := (yX8_isRest, cX8_isRest, 5, (some .boolean), 0, 0, kX8_isRest)
noncomputable def kX8_keep : zCode := [[some (zo_loadA 1 0), some (zo_push 2 (.inl ((.ofNat 0, .ofNat 0), none))), some (zo_put 5 8 11 0), none, none, some (zo_loadI 6 1), some (zo_push 7 (.inl ((.ofNat 0, .ofNat 0), none))), some (zo_push 8 (.inl ((.ofNat 1, .ofNat 1), none))), some (zo_call 11 181 3 0 0 0 0 zrecv0), none, none, some (zo_if zd_ne 16 14), none, none, some (zo_push 15 (.inl ((.ofNat 0, .ofNat 0), none))), some (zo_ret1 0 0 2)],
  [some (zo_loadA 17 0), some (zo_get 20 8 49), none, none, some (zo_loadI 21 1), some (zo_push 22 (.inl ((.ofNat 1, .ofNat 1), none))), some (zo_bast 23), some (zo_loadA 24 0), some (zo_get 27 8 50), none, none, some (zo_loadI 28 1), some (zo_loadA 29 0), some (zo_get 32 8 47), none, none],
  [some (zo_ast 33 0), some (zo_loadA 34 0), some (zo_get 37 8 0), none, none, some (zo_loadA 38 0), some (zo_get 41 8 48), none, none, some (zo_push 43 (.inl ((.ofNat 27, .ofNat 27), none))), none, some (zo_loadI 44 1), some (zo_i2 45 zi_mul), some (zo_call 48 191 3 0 0 0 0 zrecv0), none, none],
  [some (zo_push 49 (.inl ((.ofNat 1, .ofNat 1), none))), some (zo_ret1 0 0 2)]]
noncomputable def mX8_keep : zM := (yX8_keep, cX8_keep, 2, (some .boolean), 0, 0, kX8_keep)
noncomputable def kX8_keystone : zCode := [[some (zo_loadA 1 0), some (zo_push 2 (.inl ((.ofNat 0, .ofNat 0), none))), some (zo_put 5 8 11 0), none, none, some (zo_loadI 6 1), some (zo_push 7 (.inl ((.ofNat 0, .ofNat 0), none))), some (zo_push 9 (.inl ((.ofNat 10, .ofNat 10), none))), none, some (zo_call 12 181 3 0 0 0 0 zrecv0), none, none, some (zo_if zd_ne 17 15), none, none, some (zo_push 16 (.inl ((.negSucc 0, .negSucc 0), none)))],
  [some (zo_ret1 0 0 0), some (zo_loadA 18 0), some (zo_call 21 232 1 0 0 0 0 (zrecv 8)), none, none, some (zo_stI 22 2), some (zo_loadI 23 2), some (zo_if zd_ne 29 26), none, none, some (zo_push 28 (.inl ((.negSucc 1, .negSucc 1), none))), none, some (zo_ret1 0 0 0), none, none, none],
  [none, none, none, none, none, none, none, none, none, none, none, none, none, none, none, none],
  [none, none, none, none, none, none, none, none, none, none, none, none, none, none, none, none],
  [none, none, none, none, none, none, none, none, none, none, none, none, none, none, none, none],
  [none, none, none, none, none, none, none, none, none, none, none, none, none, none, none, none],
  [none, none, none, none, none, none, none, none, none, none, none, none, none, none, none, none],
  [none, none, none, none, none, none, none, none, none, none, none, none, none, none]]
noncomputable def mX8_keystone : zM := (yX8_keystone, cX8_keystone, 9, (some .int), 0, 0, kX8_keystone)
noncomputable def kX8_later : zCode := [[some (zo_loadA 1 0), some (zo_push 2 (.inl ((.ofNat 0, .ofNat 0), none))), some (zo_put 5 8 11 0), none, none, some (zo_loadI 6 1), some (zo_push 7 (.inl ((.ofNat 0, .ofNat 0), none))), some (zo_push 9 (.inl ((.ofNat 60, .ofNat 60), none))), none, some (zo_call 12 181 3 0 0 0 0 zrecv0), none, none, some (zo_if zd_ne 17 15), none, none, some (zo_push 16 (.inl ((.negSucc 0, .negSucc 0), none)))],
  [some (zo_ret1 0 0 0), some (zo_loadA 18 0), some (zo_get 21 8 0), none, none, some (zo_loadA 22 0), some (zo_get 25 8 26), none, none, some (zo_push 26 (.inl ((.ofNat 0, .ofNat 0), none))), some (zo_call 29 191 3 0 0 0 0 zrecv0), none, none, some (zo_loadA 30 0), some (zo_loadA 31 0), some (zo_get 34 8 26)],
  [none, none, some (zo_loadI 35 1), some (zo_call 38 173 3 0 0 0 0 (zrecv 8)), none, none, some (zo_push 39 (.inl ((.ofNat 0, .ofNat 0), none))), some (zo_stI 40 2), some (zo_push 41 (.inl ((.ofNat 0, .ofNat 0), none))), some (zo_stI 42 3), some (zo_loadI 43 3), some (zo_loadA 44 0), some (zo_get 47 8 3), none, none, some (zo_ic zc_ge 70 50)],
  [none, none, none, none, none, none, none, none, none, none, none, none, none, none, none, none],
  [none, none, none, none, none, none, some (zo_loadA 71 0), some (zo_push 72 (.inl ((.ofNat 0, .ofNat 0), none))), some (zo_put 75 8 10 0), none, none, some (zo_loadA 76 0), some (zo_loadA 77 0), some (zo_loadA 78 0), some (zo_get 81 8 26), none],
  [none, some (zo_call 84 227 2 0 0 0 0 (zrecv 8)), none, none, some (zo_i2l 85), some (zo_call 88 222 2 0 0 0 0 (zrecv 8)), none, none, some (zo_loadA 89 0), some (zo_loadI 90 2), some (zo_i2l 91), some (zo_call 94 222 2 0 0 0 0 (zrecv 8)), none, none, some (zo_loadA 95 0), some (zo_get 98 8 26)],
  [none, none, some (zo_push 100 (.inl ((.ofNat 25, .ofNat 25), none))), none, some (zo_ald 101 0), some (zo_loadA 102 0), some (zo_get 105 8 0), none, none, some (zo_push 107 (.inl ((.ofNat 25, .ofNat 25), none))), none, some (zo_ald 108 0), some (zo_sub 109), some (zo_ret1 0 0 0)]]
noncomputable def mX8_later : zM := (yX8_later, cX8_later, 4, (some .int), 0, 0, kX8_later)
noncomputable def kX8_law : zCode := [[some (zo_loadA 1 0), some (zo_push 2 (.inl ((.ofNat 0, .ofNat 0), none))), some (zo_put 5 8 11 0), none, none, some (zo_loadA 6 0), some (zo_get 9 8 8), none, none, some (zo_stI 10 1), some (zo_loadA 11 0), some (zo_call 14 204 1 0 0 0 0 (zrecv 8)), none, none, some (zo_if zd_ne 26 17), none],
  [none, none, none, none, none, none, none, none, none, none, some (zo_loadA 27 0), some (zo_call 30 175 1 0 0 0 0 (zrecv 8)), none, none, some (zo_stI 31 2), some (zo_loadA 32 0)],
  [some (zo_get 35 8 18), none, none, some (zo_stA 36 3), some (zo_loadA 37 0), some (zo_get 40 8 20), none, none, some (zo_stI 42 4), none, some (zo_loadA 43 0), some (zo_loadA 44 0), some (zo_get 47 8 19), none, none, some (zo_put 50 8 18 3)],
  [none, none, some (zo_loadA 51 0), some (zo_loadI 52 1), some (zo_put 55 8 20 0), none, none, some (zo_push 56 (.inl ((.ofNat 0, .ofNat 0), none))), some (zo_stI 58 5), none, some (zo_loadI 60 5), none, some (zo_loadI 61 1), some (zo_ic zc_ge 84 64), none, none],
  [none, none, none, none, none, none, none, none, none, none, none, none, none, none, none, none],
  [none, none, none, none, some (zo_loadA 85 0), some (zo_call 88 175 1 0 0 0 0 (zrecv 8)), none, none, some (zo_stI 90 5), none, some (zo_loadA 91 0), some (zo_loadA 92 3), some (zo_put 95 8 18 3), none, none, some (zo_loadA 96 0)],
  [some (zo_loadI 98 4), none, some (zo_put 101 8 20 0), none, none, some (zo_loadA 102 0), some (zo_push 103 (.inl ((.ofNat 0, .ofNat 0), none))), some (zo_put 106 8 10 0), none, none, some (zo_loadA 107 0), some (zo_loadI 109 5), none, some (zo_i2l 110), some (zo_call 113 222 2 0 0 0 0 (zrecv 8)), none],
  [none, some (zo_loadA 114 0), some (zo_loadI 115 2), some (zo_i2l 116), some (zo_call 119 222 2 0 0 0 0 (zrecv 8)), none, none, some (zo_loadI 121 5), none, some (zo_loadI 122 2), some (zo_sub 123), some (zo_ret1 0 0 0)]]
noncomputable def mX8_law : zM := (yX8_law, cX8_law, 6, (some .int), 0, 0, kX8_law)
noncomputable def kX8_lay : zCode := [[some (zo_push 1 (.inl ((.ofNat 0, .ofNat 0), none))), some (zo_stI 2 3), some (zo_loadI 3 3), some (zo_push 5 (.inl ((.ofNat 27, .ofNat 27), none))), none, some (zo_ic zc_ge 22 8), none, none, some (zo_loadA 9 1), some (zo_loadI 10 2), some (zo_loadI 11 3), some (zo_add 12), some (zo_loadA 13 0), some (zo_loadI 14 3), some (zo_ald 15 0), some (zo_ast 16 0)],
  [some (zo_inc 19 3 (.ofNat 1)), none, none, some (zo_goto 2), none, none, some (zo_ret0 0 0)]]
noncomputable def mX8_lay : zM := (yX8_lay, cX8_lay, 4, none, 0, 0, kX8_lay)
noncomputable def kX8_layCanBe : zCode := [[some (zo_push 1 (.inl ((.ofNat 0, .ofNat 0), none))), some (zo_stI 2 1), some (zo_loadI 3 1), some (zo_push 4 (.inl ((.ofNat 1, .ofNat 1), none))), some (zo_loadA 5 0), some (zo_get 8 8 3), none, none, some (zo_i2 9 zi_shl), some (zo_ic zc_ge 84 12), none, none, some (zo_loadA 13 0), some (zo_push 14 (.inl ((.negSucc 0, .negSucc 0), none))), some (zo_call 17 194 2 0 0 0 0 (zrecv 8)), none],
  [none, some (zo_push 18 (.inl ((.ofNat 0, .ofNat 0), none))), some (zo_stI 19 2), some (zo_loadI 20 2), some (zo_loadA 21 0), some (zo_get 24 8 3), none, none, some (zo_ic zc_ge 57 27), none, none, none, none, none, none, none],
  [none, none, none, none, none, none, none, none, none, none, none, none, none, none, none, none],
  [none, none, none, none, none, none, none, none, none, some (zo_loadA 58 0), some (zo_get 61 8 41), none, none, some (zo_loadI 62 1), some (zo_loadA 63 0), some (zo_push 64 (.inl ((.ofNat 2, .ofNat 2), none)))],
  [some (zo_call 67 218 2 0 0 0 0 (zrecv 8)), none, none, some (zo_push 69 (.inl ((.ofNat 1000000000, .ofNat 1000000000), none))), none, some (zo_ic zc_ge 76 72), none, none, none, none, none, none, some (zo_push 77 (.inl ((.ofNat 0, .ofNat 0), none))), some (zo_bast 78), some (zo_inc 81 1 (.ofNat 1)), none],
  [none, some (zo_goto 2), none, none, some (zo_ret0 0 0)]]
noncomputable def mX8_layCanBe : zM := (yX8_layCanBe, cX8_layCanBe, 3, none, 0, 0, kX8_layCanBe)
noncomputable def kX8_layFound : zCode := [[some (zo_loadA 1 0), some (zo_push 2 (.inl ((.negSucc 0, .negSucc 0), none))), some (zo_call 5 194 2 0 0 0 0 (zrecv 8)), none, none, some (zo_push 6 (.inl ((.ofNat 0, .ofNat 0), none))), some (zo_stI 7 1), some (zo_loadI 8 1), some (zo_loadA 9 0), some (zo_get 12 8 45), none, none, some (zo_ic zc_ge 91 15), none, none, none],
  [none, none, none, none, none, none, none, none, none, none, none, none, none, none, none, none],
  [none, none, none, none, none, none, none, none, none, none, none, none, none, none, none, none],
  [none, none, none, none, none, none, none, none, none, none, none, none, none, none, none, none],
  [none, none, none, none, none, none, none, none, none, none, none, none, none, none, none, none],
  [none, none, none, none, none, none, none, none, none, none, none, some (zo_ret0 0 0)]]
noncomputable def mX8_layFound : zM := (yX8_layFound, cX8_layFound, 2, none, 0, 0, kX8_layFound)
noncomputable def kX8_layMay : zCode := [[some (zo_push 1 (.inl ((.ofNat 0, .ofNat 0), none))), some (zo_stI 2 2), some (zo_loadI 3 2), some (zo_loadA 4 0), some (zo_get 7 8 3), none, none, some (zo_ic zc_ge 97 10), none, none, none, none, none, none, none, none],
  [none, none, none, none, none, none, none, none, none, none, none, none, none, none, none, none],
  [none, none, none, none, none, none, none, none, none, none, none, none, none, none, none, none],
  [none, none, none, none, none, none, none, none, none, none, none, none, none, none, none, none],
  [none, none, none, none, none, none, none, none, none, none, none, none, none, none, none, none],
  [none, none, none, none, none, none, none, none, none, none, none, none, none, none, none, none],
  [none, some (zo_ret0 0 0)]]
noncomputable def mX8_layMay : zM := (yX8_layMay, cX8_layMay, 4, none, 0, 0, kX8_layMay)
noncomputable def kX8_lost : zCode := [[some (zo_loadA 1 0), some (zo_push 2 (.inl ((.ofNat 1, .ofNat 1), none))), some (zo_put 5 8 11 0), none, none, some (zo_push 6 (.inl ((.ofNat 0, .ofNat 0), none))), some (zo_ret1 0 0 0)]]
noncomputable def mX8_lost : zM := (yX8_lost, cX8_lost, 1, (some .int), 0, 0, kX8_lost)
noncomputable def kX8_meets : zCode := [[some (zo_loadA 1 0), some (zo_push 2 (.inl ((.ofNat 0, .ofNat 0), none))), some (zo_put 5 8 11 0), none, none, some (zo_loadA 6 0), some (zo_loadI 7 1), some (zo_loadI 8 2), some (zo_call 11 146 3 0 0 0 0 (zrecv 8)), none, none, some (zo_if zd_eq 24 14), none, none, none, none],
  [none, none, none, none, none, none, none, none, some (zo_push 25 (.inl ((.negSucc 0, .negSucc 0), none))), some (zo_ret1 0 0 0), none, none, none, none, none, none],
  [none, none, none, none, none, none, none, none, none, none, none, none, none, none, none, none],
  [none, none, none, none, none, none, none, none, none, none, none, none, none, none, none, none],
  [none, none, none, none, none, none, none, none, none, none, none, none, none, none, none, none],
  [none, none, none, none, none, none, none, none, none, none, none, none, none, none, none, none],
  [none, none, none, none, none, none, none, none, none, none, none, none, none, none, none, none],
  [none, none, none, none, none, none, none, none, none, none, none, none, none, none, none, none],
  [none, none, none, none, none, none, none, none, none, none, none, none]]
noncomputable def mX8_meets : zM := (yX8_meets, cX8_meets, 7, (some .int), 0, 0, kX8_meets)
noncomputable def kX8_mended : zCode := [[some (zo_loadA 1 0), some (zo_push 2 (.inl ((.ofNat 0, .ofNat 0), none))), some (zo_put 5 8 11 0), none, none, some (zo_loadA 6 0), some (zo_loadI 7 1), some (zo_call 10 185 2 0 0 0 0 (zrecv 8)), none, none, some (zo_if zd_ne 15 13), none, none, some (zo_push 14 (.inl ((.negSucc 0, .negSucc 0), none))), some (zo_ret1 0 0 0), none],
  [none, none, none, none, none, none, none, none, none, none, none, none, none, none, none, none],
  [none, none, none, none, none, none, none, none, none, none, none, none, none, none, none]]
noncomputable def mX8_mended : zM := (yX8_mended, cX8_mended, 3, (some .int), 0, 0, kX8_mended)
noncomputable def kX8_missed : zCode := [[some (zo_loadA 1 0), some (zo_push 2 (.inl ((.ofNat 0, .ofNat 0), none))), some (zo_put 5 8 11 0), none, none, some (zo_loadA 6 0), some (zo_loadI 7 1), some (zo_call 10 185 2 0 0 0 0 (zrecv 8)), none, none, some (zo_if zd_ne 15 13), none, none, some (zo_push 14 (.inl ((.negSucc 0, .negSucc 0), none))), some (zo_ret1 0 0 0), none],
  [none, none, none, none, none, none, none, none, none, none, none, none, none, none, none, none],
  [none, none, none, none, none, none, none, none, none, none, none, none, none, none, none, none]]
noncomputable def mX8_missed : zM := (yX8_missed, cX8_missed, 4, (some .int), 0, 0, kX8_missed)
noncomputable def kX8_night : zCode := [[some (zo_push 1 (.inl ((.ofNat 1, .ofNat 1), none))), some (zo_loadA 2 0), some (zo_get 5 8 1), none, none, some (zo_i2 6 zi_shl), some (zo_push 7 (.inl ((.ofNat 1, .ofNat 1), none))), some (zo_sub 8), some (zo_ret1 0 0 0)]]
noncomputable def mX8_night : zM := (yX8_night, cX8_night, 1, (some .int), 0, 0, kX8_night)
noncomputable def kX8_nights : zCode := [[some (zo_loadA 1 0), some (zo_push 2 (.inl ((.ofNat 0, .ofNat 0), none))), some (zo_put 5 8 11 0), none, none, some (zo_loadI 6 1), some (zo_push 7 (.inl ((.ofNat 0, .ofNat 0), none))), some (zo_push 9 (.inl ((.ofNat 30, .ofNat 30), none))), none, some (zo_call 12 181 3 0 0 0 0 zrecv0), none, none, some (zo_if zd_ne 17 15), none, none, some (zo_push 16 (.inl ((.negSucc 0, .negSucc 0), none)))],
  [some (zo_ret1 0 0 0), some (zo_loadI 18 1), some (zo_if zd_le 29 21), none, none, some (zo_loadA 22 0), some (zo_loadA 23 0), some (zo_get 26 8 0), none, none, some (zo_call 29 205 2 0 0 0 0 (zrecv 8)), none, none, some (zo_loadA 30 0), some (zo_get 33 8 0), none],
  [none, some (zo_push 35 (.inl ((.ofNat 25, .ofNat 25), none))), none, some (zo_ald 36 0), some (zo_stI 37 2), some (zo_loadA 38 0), some (zo_get 41 8 0), none, none, some (zo_push 43 (.inl ((.ofNat 26, .ofNat 26), none))), none, some (zo_ald 44 0), some (zo_stI 45 3), some (zo_loadA 46 0), some (zo_loadA 47 0), some (zo_get 50 8 0)],
  [none, none, some (zo_loadI 51 1), some (zo_call 54 173 3 0 0 0 0 (zrecv 8)), none, none, some (zo_loadA 55 0), some (zo_push 56 (.inl ((.ofNat 0, .ofNat 0), none))), some (zo_put 59 8 10 0), none, none, some (zo_loadA 60 0), some (zo_loadA 61 0), some (zo_get 64 8 0), none, none],
  [some (zo_push 66 (.inl ((.ofNat 26, .ofNat 26), none))), none, some (zo_ald 67 0), some (zo_loadI 68 3), some (zo_sub 69), some (zo_i2l 70), some (zo_call 73 222 2 0 0 0 0 (zrecv 8)), none, none, some (zo_loadA 74 0), some (zo_loadA 75 0), some (zo_loadA 76 0), some (zo_get 79 8 0), none, none, some (zo_call 82 227 2 0 0 0 0 (zrecv 8))],
  [none, none, some (zo_i2l 83), some (zo_call 86 222 2 0 0 0 0 (zrecv 8)), none, none, some (zo_loadA 87 0), some (zo_get 90 8 0), none, none, some (zo_push 92 (.inl ((.ofNat 25, .ofNat 25), none))), none, some (zo_ald 93 0), some (zo_loadI 94 2), some (zo_sub 95), some (zo_ret1 0 0 0)]]
noncomputable def mX8_nights : zM := (yX8_nights, cX8_nights, 4, (some .int), 0, 0, kX8_nights)
noncomputable def kX8_otherGets : zCode := [[some (zo_loadI 1 1), some (zo_loadI 2 0), some (zo_ic zc_le 11 5), none, none, some (zo_loadI 6 2), some (zo_loadI 7 0), some (zo_sub 8), some (zo_goto 12), none, none, some (zo_push 12 (.inl ((.ofNat 0, .ofNat 0), none))), some (zo_ret1 0 0 0)]]
noncomputable def mX8_otherGets : zM := (yX8_otherGets, cX8_otherGets, 3, (some .int), 0, 0, kX8_otherGets)
noncomputable def kX8_paid : zCode := [[some (zo_loadA 1 0), some (zo_push 2 (.inl ((.ofNat 0, .ofNat 0), none))), some (zo_put 5 8 11 0), none, none, some (zo_loadA 6 0), some (zo_loadI 7 1), some (zo_call 10 185 2 0 0 0 0 (zrecv 8)), none, none, some (zo_if zd_ne 15 13), none, none, some (zo_push 14 (.inl ((.negSucc 0, .negSucc 0), none))), some (zo_ret1 0 0 0), none],
  [none, none, none, none, none, none, none, none, none, none, none, none, none, none, none, none],
  [none, none, none, none, none, none, none, none, none, none, none, none, none, none, none, none],
  [none, none, none, none, none, none, none, none, none, none, none, none, none, none, none, none],
  [none, none, none, none, none, none, none, none, none, none, none, none, none, none, none, none],
  [none, none, none, none, none, none, none, none, none, none, none, none, none, none, none, none],
  [none, none, none, none, none, none, none, none, none, none, none, none, none, none, none, none],
  [none, none, none, none, none, none, none, none, none, none, none, none, none, none, none, none],
  [none]]
noncomputable def mX8_paid : zM := (yX8_paid, cX8_paid, 6, (some .int), 0, 0, kX8_paid)
noncomputable def kX8_power : zCode := [[some (zo_push 1 (.inr (.inl (.ofNat 1, .ofNat 1)))), some (zo_stL 2 3), some (zo_push 3 (.inl ((.ofNat 0, .ofNat 0), none))), some (zo_stI 5 5), none, some (zo_loadI 7 5), none, some (zo_loadI 8 2), some (zo_ic zc_ge 21 11), none, none, none, none, none, none, none],
  [none, none, none, none, none, some (zo_loadL 22 3), some (zo_ret1 0 0 1)]]
noncomputable def mX8_power : zM := (yX8_power, cX8_power, 6, (some .long), 0, 0, kX8_power)
noncomputable def kX8_readRule : zCode := [[some (zo_loadA 1 0), some (zo_push 3 (.inl ((.ofNat 40, .ofNat 40), none))), none, some (zo_call 6 151 2 0 0 0 0 (zrecv 8)), none, none, some (zo_loadA 7 0), some (zo_push 8 (.inl ((.ofNat 0, .ofNat 0), none))), some (zo_put 11 8 21 2), none, none, some (zo_loadA 12 0), some (zo_get 15 8 13), none, none, some (zo_if zd_le 24 18)],
  [none, none, none, none, none, none, none, none, some (zo_loadA 25 0), some (zo_call 28 231 1 0 0 0 0 (zrecv 8)), none, none, some (zo_ret1 0 0 2)]]
noncomputable def mX8_readRule : zM := (yX8_readRule, cX8_readRule, 1, (some .boolean), 0, 0, kX8_readRule)
noncomputable def kX8_remember : zCode := [[some (zo_loadA 1 0), some (zo_get 4 8 24), none, none, some (zo_push 6 (.inl ((.ofNat 12, .ofNat 12), none))), none, some (zo_ic zc_ne 49 9), none, none, none, none, none, none, none, none, none],
  [none, none, none, none, none, none, none, none, none, none, none, none, none, none, none, none],
  [none, none, none, none, none, none, none, none, none, none, none, none, none, none, none, none],
  [none, some (zo_loadA 50 1), some (zo_loadA 51 0), some (zo_get 54 8 23), none, none, some (zo_push 56 (.inl ((.ofNat 27, .ofNat 27), none))), none, some (zo_loadA 57 0), some (zo_get 60 8 24), none, none, some (zo_i2 61 zi_mul), some (zo_call 64 191 3 0 0 0 0 zrecv0), none, none],
  [some (zo_loadA 65 0), some (zo_dup 66), some (zo_get 69 8 24), none, none, some (zo_push 70 (.inl ((.ofNat 1, .ofNat 1), none))), some (zo_add 71), some (zo_put 74 8 24 0), none, none, some (zo_ret0 0 0)]]
noncomputable def mX8_remember : zM := (yX8_remember, cX8_remember, 3, none, 0, 0, kX8_remember)
noncomputable def kX8_rests : zCode := [[some (zo_loadA 1 0), some (zo_push 2 (.inl ((.ofNat 0, .ofNat 0), none))), some (zo_put 5 8 11 0), none, none, some (zo_loadI 6 1), some (zo_push 7 (.inl ((.ofNat 0, .ofNat 0), none))), some (zo_push 9 (.inl ((.ofNat 9, .ofNat 9), none))), none, some (zo_call 12 181 3 0 0 0 0 zrecv0), none, none, some (zo_if zd_eq 25 15), none, none, some (zo_loadI 16 2)],
  [some (zo_push 17 (.inl ((.ofNat 0, .ofNat 0), none))), some (zo_push 19 (.inl ((.ofNat 9, .ofNat 9), none))), none, some (zo_call 22 181 3 0 0 0 0 zrecv0), none, none, some (zo_if zd_ne 27 25), none, none, some (zo_push 26 (.inl ((.negSucc 0, .negSucc 0), none))), some (zo_ret1 0 0 0), some (zo_push 28 (.inl ((.ofNat 0, .ofNat 0), none))), some (zo_stI 29 3), some (zo_push 30 (.inl ((.ofNat 0, .ofNat 0), none))), some (zo_stI 32 4), none],
  [some (zo_loadA 33 0), some (zo_push 34 (.inl ((.ofNat 0, .ofNat 0), none))), some (zo_put 37 8 10 0), none, none, some (zo_push 38 (.inl ((.ofNat 0, .ofNat 0), none))), some (zo_stI 40 5), none, some (zo_loadI 42 5), none, some (zo_push 44 (.inl ((.ofNat 9, .ofNat 9), none))), none, some (zo_ic zc_gt 122 47), none, none, some (zo_push 48 (.inl ((.ofNat 0, .ofNat 0), none)))],
  [some (zo_stI 50 6), none, some (zo_loadI 52 6), none, some (zo_push 54 (.inl ((.ofNat 9, .ofNat 9), none))), none, some (zo_ic zc_gt 116 57), none, none, some (zo_loadI 59 5), none, some (zo_loadI 61 6), none, some (zo_loadI 62 1), some (zo_loadI 63 2), some (zo_call 66 186 4 0 0 0 0 zrecv0)],
  [none, none, some (zo_if zd_ne 72 69), none, none, some (zo_goto 110), none, none, some (zo_loadI 73 3), some (zo_if zd_ne 90 76), none, none, some (zo_loadA 77 0), some (zo_loadI 79 5), none, some (zo_i2l 80)],
  [some (zo_call 83 222 2 0 0 0 0 (zrecv 8)), none, none, some (zo_loadA 84 0), some (zo_loadI 86 6), none, some (zo_i2l 87), some (zo_call 90 222 2 0 0 0 0 (zrecv 8)), none, none, some (zo_inc 93 3 (.ofNat 1)), none, none, some (zo_loadI 95 4), none, some (zo_loadI 97 5)],
  [none, some (zo_loadI 99 6), none, some (zo_ic zc_lt 106 102), none, none, some (zo_push 103 (.inl ((.ofNat 1, .ofNat 1), none))), some (zo_goto 107), none, none, some (zo_push 107 (.inl ((.ofNat 0, .ofNat 0), none))), some (zo_add 108), some (zo_stI 110 4), none, some (zo_inc 113 6 (.ofNat 1)), none],
  [none, some (zo_goto 50), none, none, some (zo_inc 119 5 (.ofNat 1)), none, none, some (zo_goto 40), none, none, some (zo_loadI 123 3), some (zo_if zd_le 133 126), none, none, some (zo_loadA 127 0), some (zo_loadI 129 4)],
  [none, some (zo_i2l 130), some (zo_call 133 222 2 0 0 0 0 (zrecv 8)), none, none, some (zo_loadI 134 3), some (zo_ret1 0 0 0)]]
noncomputable def mX8_rests : zM := (yX8_rests, cX8_rests, 7, (some .int), 0, 0, kX8_rests)
noncomputable def kX8_rider : zCode := [[some (zo_loadA 1 0), some (zo_push 2 (.inl ((.ofNat 0, .ofNat 0), none))), some (zo_put 5 8 11 0), none, none, some (zo_loadA 6 0), some (zo_loadI 7 1), some (zo_call 10 185 2 0 0 0 0 (zrecv 8)), none, none, some (zo_if zd_eq 22 13), none, none, none, none, none],
  [none, none, none, none, none, none, some (zo_loadA 23 0), some (zo_call 26 195 1 0 0 0 0 (zrecv 8)), none, none, some (zo_ret1 0 0 0), none, none, none, none, none],
  [none, none, none, none, none, none, none, none, none, none, none, none, none, none, none, none],
  [none, none, none, none, none, none, none, none, none, none, none, none, none, none, none, none],
  [none, none, none, none, none, none, none, none, none, none, none, none, none, none, none, none],
  [none, none, none, none, none, none, none, none, none, none, none, none, none, none, none, none],
  [none, none, none, none, none, none, none, none, none, none, none, none, none, none, none, none],
  [none, none, none]]
noncomputable def mX8_rider : zM := (yX8_rider, cX8_rider, 3, (some .int), 0, 0, kX8_rider)
noncomputable def kX8_riders : zCode := [[some (zo_loadA 1 0), some (zo_push 2 (.inl ((.ofNat 0, .ofNat 0), none))), some (zo_put 5 8 11 0), none, none, some (zo_loadA 6 0), some (zo_push 8 (.inl ((.ofNat 76, .ofNat 76), none))), none, some (zo_call 11 151 2 0 0 0 0 (zrecv 8)), none, none, some (zo_loadA 12 0), some (zo_get 15 8 13), none, none, some (zo_if zd_ne 20 18)],
  [none, none, some (zo_push 19 (.inl ((.ofNat 0, .ofNat 0), none))), some (zo_ret1 0 0 0), none, none, none, none, none, none, none, none, none, none, none, none],
  [none, none, none, none, none, none, none, none, none, none, none, none, none, none, none, none],
  [none, none, none, none, none, none, none, none, none, none, none, none, none, none, none, none],
  [none, none, none, none, none, none, none, none, none, none, none, none, none, none, none, none],
  [none, none, none, none, none, none, none, none, none, none, none, none, none, none, none, none],
  [none, none, none, none, none, none, none, none, none, none, none, none, none, none, none, none],
  [none, none, none, none, none, none, none, none, none, none, none, none, none, none, none, none],
  [none, none, none, none, none, none, none, none, none, none, none, none, none, none, none, none],
  [none, none, none, none, none, none, none, none, none, none, none, none, none, none, none, none],
  [none, none, none, none, none, none, none, none, none, none, none, none, none, none, none, none],
  [none, none, none, none, none, none, none, none, none, none, none, none, none, none, none, none],
  [none, none, none, none, none, none, none, none, none, none, none, none, none, none, none, none],
  [none, none, none, none]]
noncomputable def mX8_riders : zM := (yX8_riders, cX8_riders, 4, (some .int), 0, 0, kX8_riders)
noncomputable def kX8_rota : zCode := [[some (zo_loadA 1 0), some (zo_push 2 (.inl ((.ofNat 0, .ofNat 0), none))), some (zo_put 5 8 11 0), none, none, some (zo_loadA 6 0), some (zo_loadA 7 0), some (zo_get 10 8 1), none, none, some (zo_call 13 151 2 0 0 0 0 (zrecv 8)), none, none, some (zo_push 14 (.inl ((.ofNat 0, .ofNat 0), none))), some (zo_stI 15 1), some (zo_loadI 16 1)],
  [some (zo_loadA 17 0), some (zo_get 20 8 1), none, none, some (zo_ic zc_ge 102 23), none, none, some (zo_loadA 24 0), some (zo_call 27 163 1 0 0 0 0 (zrecv 8)), none, none, some (zo_if zd_eq 102 30), none, none, some (zo_loadA 31 0), some (zo_call 34 178 1 0 0 0 0 (zrecv 8))],
  [none, none, some (zo_push 36 (.inl ((.ofNat 45, .ofNat 45), none))), none, some (zo_ic zc_ne 43 39), none, none, none, none, none, none, some (zo_loadA 44 0), some (zo_call 47 178 1 0 0 0 0 (zrecv 8)), none, none, some (zo_push 49 (.inl ((.ofNat 48, .ofNat 48), none)))],
  [none, some (zo_sub 50), some (zo_stI 51 2), some (zo_loadA 52 0), some (zo_call 55 178 1 0 0 0 0 (zrecv 8)), none, none, some (zo_push 57 (.inl ((.ofNat 45, .ofNat 45), none))), none, some (zo_ic zeqn 79 60), none, none, some (zo_loadA 61 0), some (zo_loadI 62 2), some (zo_call 65 185 2 0 0 0 0 (zrecv 8)), none],
  [none, some (zo_if zd_ne 79 68), none, none, some (zo_loadA 69 0), some (zo_loadA 70 0), some (zo_get 73 8 15), none, none, some (zo_call 76 161 2 0 0 0 0 (zrecv 8)), none, none, some (zo_goto 96), none, none, none],
  [none, none, none, none, none, none, none, none, none, none, none, none, none, none, none, none],
  [some (zo_inc 99 1 (.ofNat 1)), none, none, some (zo_goto 15), none, none, some (zo_loadA 103 0), some (zo_call 106 231 1 0 0 0 0 (zrecv 8)), none, none, some (zo_if zd_ne 116 109), none, none, some (zo_push 110 (.inl ((.negSucc 0, .negSucc 0), none))), some (zo_loadA 111 0), some (zo_get 114 8 16)],
  [none, none, some (zo_sub 115), some (zo_ret1 0 0 0), none, none, none, none, none, none, none, none, none, none, none, none],
  [none, none, none, none, none, none, none, none, none, none, none, none, none, none, none, none],
  [none, none, none, none, none, none, none, none, none, none, none, none, none, none, none, none],
  [none, none, none, none, none, none, none, none, none, none, none, none, none, none, none, none],
  [none, none, none, none, none, none, none, none]]
noncomputable def mX8_rota : zM := (yX8_rota, cX8_rota, 3, (some .int), 0, 0, kX8_rota)
noncomputable def kX8_rotas : zCode := [[some (zo_loadA 1 0), some (zo_push 2 (.inl ((.ofNat 0, .ofNat 0), none))), some (zo_put 5 8 11 0), none, none, some (zo_loadA 6 0), some (zo_push 7 (.inl ((.negSucc 0, .negSucc 0), none))), some (zo_call 10 194 2 0 0 0 0 (zrecv 8)), none, none, some (zo_loadA 11 0), some (zo_call 14 224 1 0 0 0 0 (zrecv 8)), none, none, some (zo_ret1 0 0 0)]]
noncomputable def mX8_rotas : zM := (yX8_rotas, cX8_rotas, 1, (some .int), 0, 0, kX8_rotas)
noncomputable def kX8_row : zCode := [[some (zo_loadA 1 0), some (zo_push 2 (.inl ((.ofNat 0, .ofNat 0), none))), some (zo_put 5 8 11 0), none, none, some (zo_loadI 6 1), some (zo_push 7 (.inl ((.ofNat 0, .ofNat 0), none))), some (zo_loadA 8 0), some (zo_get 11 8 10), none, none, some (zo_push 12 (.inl ((.ofNat 1, .ofNat 1), none))), some (zo_sub 13), some (zo_call 16 181 3 0 0 0 0 zrecv0), none, none],
  [some (zo_if zd_eq 28 19), none, none, none, none, none, none, none, none, none, none, none, some (zo_loadA 29 0), some (zo_call 32 195 1 0 0 0 0 (zrecv 8)), none, none],
  [some (zo_i2l 33), some (zo_ret1 0 0 1)]]
noncomputable def mX8_row : zM := (yX8_row, cX8_row, 2, (some .long), 0, 0, kX8_row)
noncomputable def kX8_rule : zCode := [[some (zo_loadA 1 0), some (zo_push 2 (.inl ((.ofNat 0, .ofNat 0), none))), some (zo_put 5 8 11 0), none, none, some (zo_loadA 6 0), some (zo_get 9 8 8), none, none, some (zo_stI 10 1), some (zo_loadA 11 0), some (zo_call 14 204 1 0 0 0 0 (zrecv 8)), none, none, some (zo_if zd_ne 24 17), none],
  [none, none, none, none, none, none, none, none, some (zo_push 25 (.inl ((.ofNat 0, .ofNat 0), none))), some (zo_stI 26 2), some (zo_loadI 27 2), some (zo_loadI 28 1), some (zo_ic zc_ge 49 31), none, none, none],
  [none, none, none, none, none, none, none, none, none, none, none, none, none, none, none, none],
  [none, some (zo_loadA 50 0), some (zo_loadI 51 1), some (zo_put 54 8 20 0), none, none, some (zo_push 55 (.inl ((.ofNat 0, .ofNat 0), none))), some (zo_ret1 0 0 0)]]
noncomputable def mX8_rule : zM := (yX8_rule, cX8_rule, 3, (some .int), 0, 0, kX8_rule)
noncomputable def kX8_set : zCode := [[some (zo_loadA 1 0), some (zo_push 2 (.inl ((.ofNat 0, .ofNat 0), none))), some (zo_put 5 8 11 0), none, none, some (zo_loadI 6 1), some (zo_if zd_ne 22 9), none, none, some (zo_loadI 10 2), some (zo_push 11 (.inl ((.ofNat 1, .ofNat 1), none))), some (zo_push 13 (.inl ((.ofNat 8, .ofNat 8), none))), none, some (zo_call 16 181 3 0 0 0 0 zrecv0), none, none],
  [some (zo_if zd_ne 39 19), none, none, some (zo_goto 37), none, none, some (zo_loadI 23 1), some (zo_push 24 (.inl ((.ofNat 1, .ofNat 1), none))), some (zo_ic zc_ne 37 27), none, none, some (zo_loadI 28 2), some (zo_push 29 (.inl ((.ofNat 0, .ofNat 0), none))), some (zo_push 31 (.inl ((.ofNat 9, .ofNat 9), none))), none, some (zo_call 34 181 3 0 0 0 0 zrecv0)],
  [none, none, some (zo_if zd_ne 39 37), none, none, some (zo_push 38 (.inl ((.negSucc 0, .negSucc 0), none))), some (zo_ret1 0 0 0), some (zo_loadI 40 1), some (zo_if zd_ne 50 43), none, none, some (zo_loadA 44 0), some (zo_get 47 8 1), none, none, some (zo_goto 54)],
  [none, none, some (zo_loadA 51 0), some (zo_get 54 8 2), none, none, some (zo_stI 55 3), some (zo_loadI 56 1), some (zo_if zd_ne 67 59), none, none, some (zo_loadA 60 0), some (zo_loadI 61 2), some (zo_put 64 8 1 0), none, none],
  [some (zo_goto 72), none, none, some (zo_loadA 68 0), some (zo_loadI 69 2), some (zo_put 72 8 2 0), none, none, some (zo_loadI 73 3), some (zo_ret1 0 0 0)]]
noncomputable def mX8_set : zM := (yX8_set, cX8_set, 4, (some .int), 0, 0, kX8_set)
noncomputable def kX8_shared : zCode := [[some (zo_loadA 1 0), some (zo_push 2 (.inl ((.ofNat 0, .ofNat 0), none))), some (zo_put 5 8 11 0), none, none, some (zo_loadA 6 0), some (zo_loadI 7 1), some (zo_loadI 8 2), some (zo_call 11 146 3 0 0 0 0 (zrecv 8)), none, none, some (zo_if zd_ne 16 14), none, none, some (zo_push 15 (.inl ((.negSucc 0, .negSucc 0), none))), some (zo_ret1 0 0 0)],
  [none, none, none, none, none, none, none, none, none, none, none, none, none, none, none, none],
  [none, none, none, none, none, none, none, none, none, none, none, none, none, none, none, none],
  [none, none, none, none, none, none, none, none, none, none, none]]
noncomputable def mX8_shared : zM := (yX8_shared, cX8_shared, 3, (some .int), 0, 0, kX8_shared)
noncomputable def kX8_sheet : zCode := [[some (zo_loadA 1 0), some (zo_push 2 (.inl ((.ofNat 0, .ofNat 0), none))), some (zo_put 5 8 11 0), none, none, some (zo_loadI 6 1), some (zo_push 7 (.inl ((.ofNat 0, .ofNat 0), none))), some (zo_push 8 (.inl ((.ofNat 3, .ofNat 3), none))), some (zo_call 11 181 3 0 0 0 0 zrecv0), none, none, some (zo_if zd_eq 20 14), none, none, some (zo_loadI 15 2), some (zo_push 17 (.inl ((.ofNat 8, .ofNat 8), none)))],
  [none, some (zo_ic zc_le 22 20), none, none, some (zo_push 21 (.inl ((.negSucc 0, .negSucc 0), none))), some (zo_ret1 0 0 0), some (zo_loadI 23 1), some (zo_push 24 (.inl ((.ofNat 3, .ofNat 3), none))), some (zo_ic zc_ge 34 27), none, none, some (zo_loadI 28 2), some (zo_if zd_ge 34 31), none, none, some (zo_push 33 (.inl ((.negSucc 1, .negSucc 1), none)))],
  [none, some (zo_ret1 0 0 0), some (zo_push 35 (.inl ((.ofNat 0, .ofNat 0), none))), some (zo_stI 37 5), none, some (zo_loadI 38 3), some (zo_stI 40 6), none, some (zo_push 41 (.inl ((.ofNat 0, .ofNat 0), none))), some (zo_stI 43 7), none, some (zo_loadI 45 7), none, some (zo_loadA 46 0), some (zo_get 49 8 3), none],
  [none, some (zo_ic zc_ge 141 52), none, none, none, none, none, none, none, none, none, none, none, none, none, none],
  [none, none, none, none, none, none, none, none, none, none, none, none, none, none, none, none],
  [none, none, none, none, none, none, none, none, none, none, none, none, none, none, none, none],
  [none, none, none, none, none, none, none, none, none, none, none, none, none, none, none, none],
  [none, none, none, none, none, none, none, none, none, none, none, none, none, none, none, none],
  [none, none, none, none, none, none, none, none, none, none, none, none, none, some (zo_loadI 142 1), some (zo_push 143 (.inl ((.ofNat 3, .ofNat 3), none))), some (zo_ic zc_ne 151 146)],
  [none, none, some (zo_push 148 (.inl ((.negSucc 2, .negSucc 2), none))), none, some (zo_goto 153), none, none, some (zo_loadI 153 5), none, some (zo_ret1 0 0 0)]]
noncomputable def mX8_sheet : zM := (yX8_sheet, cX8_sheet, 9, (some .int), 0, 0, kX8_sheet)
noncomputable def kX8_sign : zCode := [[some (zo_loadA 1 0), some (zo_push 2 (.inl ((.ofNat 0, .ofNat 0), none))), some (zo_put 5 8 11 0), none, none, some (zo_loadA 6 0), some (zo_get 9 8 8), none, none, some (zo_push 10 (.inl ((.ofNat 4, .ofNat 4), none))), some (zo_add 11), some (zo_push 13 (.inl ((.ofNat 80, .ofNat 80), none))), none, some (zo_ic zc_le 18 16), none, none],
  [none, none, some (zo_push 19 (.inl ((.ofNat 3, .ofNat 3), none))), some (zo_stI 20 2), some (zo_loadI 21 2), some (zo_if zd_lt 53 24), none, none, some (zo_loadA 25 0), some (zo_get 28 8 7), none, none, some (zo_loadA 29 0), some (zo_dup 30), some (zo_get 33 8 8), none],
  [none, some (zo_dupx1 34), some (zo_push 35 (.inl ((.ofNat 1, .ofNat 1), none))), some (zo_add 36), some (zo_put 39 8 8 0), none, none, some (zo_loadI 40 1), some (zo_push 42 (.inl ((.ofNat 8, .ofNat 8), none))), none, some (zo_loadI 43 2), some (zo_i2 44 zi_mul), some (zo_i2 45 zi_shr), some (zo_i1 46 zi_b), some (zo_bast 47), some (zo_inc 50 2 (.negSucc 0))],
  [none, none, some (zo_goto 20), none, none, some (zo_loadA 54 0), some (zo_get 57 8 8), none, none, some (zo_ret1 0 0 0)]]
noncomputable def mX8_sign : zM := (yX8_sign, cX8_sign, 3, (some .int), 0, 0, kX8_sign)
noncomputable def kX8_smoothest : zCode := [[some (zo_loadA 1 0), some (zo_push 2 (.inl ((.ofNat 0, .ofNat 0), none))), some (zo_put 5 8 11 0), none, none, some (zo_loadA 6 0), some (zo_push 7 (.inl ((.negSucc 0, .negSucc 0), none))), some (zo_call 10 194 2 0 0 0 0 (zrecv 8)), none, none, some (zo_loadA 11 0), some (zo_push 12 (.inl ((.ofNat 2, .ofNat 2), none))), some (zo_call 15 218 2 0 0 0 0 (zrecv 8)), none, none, some (zo_push 17 (.inl ((.ofNat 1000000000, .ofNat 1000000000), none)))],
  [none, some (zo_ic zc_ne 23 20), none, none, some (zo_push 22 (.inl ((.negSucc 1, .negSucc 1), none))), none, some (zo_ret1 0 0 0), none, none, none, none, none, none, none, none, none],
  [none, none, none, none, none, none, none, none, none, none, none, none, none, none, none, none],
  [none, none, none, none, none, none, none, none, none, none, none, none, none, none, none, none],
  [none, none, none]]
noncomputable def mX8_smoothest : zM := (yX8_smoothest, cX8_smoothest, 2, (some .int), 0, 0, kX8_smoothest)
noncomputable def kX8_solve : zCode := [[some (zo_push 1 (.inl ((.ofNat 0, .ofNat 0), none))), some (zo_stI 2 2), some (zo_loadI 3 2), some (zo_loadA 4 0), some (zo_call 7 199 1 0 0 0 0 (zrecv 8)), none, none, some (zo_ic zc_gt 40 10), none, none, some (zo_loadA 11 0), some (zo_get 14 8 37), none, none, some (zo_loadA 15 0), some (zo_get 18 8 3)],
  [none, none, some (zo_push 20 (.inl ((.ofNat 8, .ofNat 8), none))), none, some (zo_i2 21 zi_shl), some (zo_loadI 22 2), some (zo_i2 23 zi_or), some (zo_loadI 24 2), some (zo_if zd_ne 31 27), none, none, some (zo_push 28 (.inl ((.ofNat 0, .ofNat 0), none))), some (zo_goto 33), none, none, some (zo_push 33 (.inl ((.ofNat 1000000000, .ofNat 1000000000), none)))],
  [none, some (zo_ast 34 0), some (zo_inc 37 2 (.ofNat 1)), none, none, some (zo_goto 2), none, none, some (zo_loadA 41 0), some (zo_get 44 8 3), none, none, some (zo_push 45 (.inl ((.ofNat 1, .ofNat 1), none))), some (zo_sub 46), some (zo_stI 47 2), some (zo_loadI 48 2)],
  [some (zo_if zd_lt 239 51), none, none, none, none, none, none, none, none, none, none, none, none, none, none, none],
  [none, none, none, none, none, none, none, none, none, none, none, none, none, none, none, none],
  [none, none, none, none, none, none, none, none, none, none, none, none, none, none, none, none],
  [none, none, none, none, none, none, none, none, none, none, none, none, none, none, none, none],
  [none, none, none, none, none, none, none, none, none, none, none, none, none, none, none, none],
  [none, none, none, none, none, none, none, none, none, none, none, none, none, none, none, none],
  [none, none, none, none, none, none, none, none, none, none, none, none, none, none, none, none],
  [none, none, none, none, none, none, none, none, none, none, none, none, none, none, none, none],
  [none, none, none, none, none, none, none, none, none, none, none, none, none, none, none, none],
  [none, none, none, none, none, none, none, none, none, none, none, none, none, none, none, none],
  [none, none, none, none, none, none, none, none, none, none, none, none, none, none, none, none],
  [none, none, none, none, none, none, none, none, none, none, none, none, none, none, none, some (zo_loadA 240 0)],
  [some (zo_get 243 8 37), none, none, some (zo_loadA 244 0), some (zo_call 247 199 1 0 0 0 0 (zrecv 8)), none, none, some (zo_ald 248 0), some (zo_ret1 0 0 0)]]
noncomputable def mX8_solve : zM := (yX8_solve, cX8_solve, 8, (some .int), 0, 0, kX8_solve)
noncomputable def kX8_spent : zCode := [[some (zo_loadA 1 0), some (zo_push 2 (.inl ((.ofNat 0, .ofNat 0), none))), some (zo_put 5 8 11 0), none, none, some (zo_loadI 6 1), some (zo_push 7 (.inl ((.ofNat 0, .ofNat 0), none))), some (zo_push 10 (.inl ((.ofNat 999, .ofNat 999), none))), none, none, some (zo_call 13 181 3 0 0 0 0 zrecv0), none, none, some (zo_if zd_ne 18 16), none, none],
  [some (zo_push 17 (.inl ((.negSucc 0, .negSucc 0), none))), some (zo_ret1 0 0 0), some (zo_push 19 (.inl ((.ofNat 0, .ofNat 0), none))), some (zo_stI 20 2), some (zo_push 21 (.inl ((.ofNat 0, .ofNat 0), none))), some (zo_stI 22 3), some (zo_push 23 (.inl ((.ofNat 0, .ofNat 0), none))), some (zo_stI 25 4), none, some (zo_loadI 27 4), none, some (zo_loadA 28 0), some (zo_get 31 8 3), none, none, some (zo_ic zc_ge 114 34)],
  [none, none, none, none, none, none, none, none, none, none, none, none, none, none, none, none],
  [none, none, none, none, none, none, none, none, none, none, none, none, none, none, none, none],
  [none, none, none, none, none, none, none, none, none, none, none, none, none, none, none, none],
  [none, none, none, none, none, none, none, none, none, none, none, none, none, none, none, none],
  [none, none, none, none, none, none, none, none, none, none, none, none, none, none, none, none],
  [none, none, some (zo_loadA 115 0), some (zo_push 116 (.inl ((.ofNat 0, .ofNat 0), none))), some (zo_put 119 8 10 0), none, none, some (zo_loadA 120 0), some (zo_loadI 121 2), some (zo_call 124 14 1 0 0 0 0 zrecv0), none, none, some (zo_i2l 125), some (zo_call 128 222 2 0 0 0 0 (zrecv 8)), none, none],
  [some (zo_loadA 129 0), some (zo_loadI 130 3), some (zo_i2l 131), some (zo_call 134 222 2 0 0 0 0 (zrecv 8)), none, none, some (zo_loadI 135 2), some (zo_ret1 0 0 0)]]
noncomputable def mX8_spent : zM := (yX8_spent, cX8_spent, 6, (some .int), 0, 0, kX8_spent)
noncomputable def kX8_sure : zCode := [[some (zo_loadA 1 0), some (zo_push 2 (.inl ((.ofNat 0, .ofNat 0), none))), some (zo_put 5 8 11 0), none, none, some (zo_loadI 6 1), some (zo_push 7 (.inl ((.ofNat 0, .ofNat 0), none))), some (zo_loadA 8 0), some (zo_get 11 8 1), none, none, some (zo_push 12 (.inl ((.ofNat 1, .ofNat 1), none))), some (zo_sub 13), some (zo_call 16 181 3 0 0 0 0 zrecv0), none, none],
  [some (zo_if zd_eq 27 19), none, none, some (zo_loadA 20 0), some (zo_loadI 21 2), some (zo_call 24 185 2 0 0 0 0 (zrecv 8)), none, none, some (zo_if zd_ne 29 27), none, none, some (zo_push 28 (.inl ((.negSucc 0, .negSucc 0), none))), some (zo_ret1 0 0 0), none, none, none],
  [none, none, none, none, none, none, none, none, none, none, none, none, none, none, none, none],
  [none, none, none, none, none, none, none, none, none, none, none, none, none, none, none]]
noncomputable def mX8_sure : zM := (yX8_sure, cX8_sure, 5, (some .int), 0, 0, kX8_sure)
noncomputable def kX8_takes : zCode := [[some (zo_loadA 1 0), some (zo_push 2 (.inl ((.ofNat 0, .ofNat 0), none))), some (zo_put 5 8 11 0), none, none, some (zo_loadA 6 0), some (zo_push 7 (.inl ((.negSucc 0, .negSucc 0), none))), some (zo_call 10 158 2 0 0 0 0 (zrecv 8)), none, none, some (zo_stI 11 1), some (zo_loadI 12 1), some (zo_push 14 (.inl ((.ofNat 1000000000, .ofNat 1000000000), none))), none, some (zo_ic zc_ne 20 17), none],
  [none, some (zo_push 19 (.inl ((.negSucc 1, .negSucc 1), none))), none, some (zo_ret1 0 0 0), none, none, none, none, none, none, none, none, none, none, none, none],
  [none, none, none, none, none, none, none, none, none, none, none, none, none, none, none, none],
  [none, none, none, none, none, none, none, none, none, none, none, none, none, none, none, none],
  [none, none, none, none, none, none, none, none, none, none, none, none, none, none, none, none],
  [none, none, none, none, none, none, none, none, none]]
noncomputable def mX8_takes : zM := (yX8_takes, cX8_takes, 4, (some .int), 0, 0, kX8_takes)
noncomputable def kX8_tell : zCode := [[some (zo_loadA 1 0), some (zo_get 4 8 9), none, none, some (zo_loadA 5 0), some (zo_get 8 8 10), none, none, some (zo_loadL 9 1), some (zo_ast 10 1), some (zo_loadA 11 0), some (zo_dup 12), some (zo_get 15 8 10), none, none, some (zo_push 16 (.inl ((.ofNat 1, .ofNat 1), none)))],
  [some (zo_add 17), some (zo_put 20 8 10 0), none, none, some (zo_ret0 0 0)]]
noncomputable def mX8_tell : zM := (yX8_tell, cX8_tell, 3, none, 0, 0, kX8_tell)
noncomputable def kX8_tellPart : zCode := [[some (zo_loadL 1 1), some (zo_loadL 2 3), some (zo_call 5 153 2 0 0 0 0 zrecv0), none, none, some (zo_stL 7 5), none, some (zo_loadA 8 0), some (zo_push 9 (.inl ((.ofNat 0, .ofNat 0), none))), some (zo_put 12 8 10 0), none, none, some (zo_loadA 13 0), some (zo_loadL 14 1), some (zo_loadL 16 5), none],
  [some (zo_l2d 17 zl_div), some (zo_call 20 222 2 0 0 0 0 (zrecv 8)), none, none, some (zo_loadA 21 0), some (zo_loadL 22 3), some (zo_loadL 24 5), none, some (zo_l2d 25 zl_div), some (zo_call 28 222 2 0 0 0 0 (zrecv 8)), none, none, some (zo_ret0 0 0)]]
noncomputable def mX8_tellPart : zM := (yX8_tellPart, cX8_tellPart, 7, none, 0, 0, kX8_tellPart)
noncomputable def kX8_tellWays : zCode := [[some (zo_loadA 1 0), some (zo_call 4 155 1 0 0 0 0 (zrecv 8)), none, none, some (zo_stI 5 1), some (zo_loadA 6 0), some (zo_push 7 (.inl ((.ofNat 0, .ofNat 0), none))), some (zo_put 10 8 10 0), none, none, some (zo_loadI 11 1), some (zo_if zd_ne 16 14), none, none, some (zo_push 15 (.inl ((.ofNat 0, .ofNat 0), none))), some (zo_ret1 0 0 0)],
  [none, none, none, none, none, none, none, none, none, none, none, none]]
noncomputable def mX8_tellWays : zM := (yX8_tellWays, cX8_tellWays, 2, (some .int), 0, 0, kX8_tellWays)
noncomputable def kX8_thin : zCode := [[some (zo_loadA 1 0), some (zo_push 2 (.inl ((.ofNat 0, .ofNat 0), none))), some (zo_put 5 8 11 0), none, none, some (zo_push 6 (.inl ((.ofNat 0, .ofNat 0), none))), some (zo_stI 7 1), some (zo_push 8 (.inl ((.ofNat 1, .ofNat 1), none))), some (zo_stI 9 2), some (zo_loadI 10 2), some (zo_loadA 11 0), some (zo_get 14 8 1), none, none, some (zo_ic zc_ge 38 17), none],
  [none, some (zo_loadA 18 0), some (zo_loadI 19 2), some (zo_call 22 144 2 0 0 0 0 (zrecv 8)), none, none, some (zo_loadA 23 0), some (zo_loadI 24 1), some (zo_call 27 144 2 0 0 0 0 (zrecv 8)), none, none, some (zo_ic zc_ge 32 30), none, none, none, none],
  [some (zo_inc 35 2 (.ofNat 1)), none, none, some (zo_goto 9), none, none, some (zo_loadA 39 0), some (zo_push 40 (.inl ((.ofNat 0, .ofNat 0), none))), some (zo_put 43 8 10 0), none, none, some (zo_loadA 44 0), some (zo_loadA 45 0), some (zo_loadI 46 1), some (zo_call 49 144 2 0 0 0 0 (zrecv 8)), none],
  [none, some (zo_i2l 50), some (zo_call 53 222 2 0 0 0 0 (zrecv 8)), none, none, some (zo_loadI 54 1), some (zo_ret1 0 0 0)]]
noncomputable def mX8_thin : zM := (yX8_thin, cX8_thin, 3, (some .int), 0, 0, kX8_thin)
noncomputable def kX8_thrown : zCode := [[some (zo_loadA 1 0), some (zo_get 4 8 11), none, none, some (zo_ret1 0 0 0)]]
noncomputable def mX8_thrown : zM := (yX8_thrown, cX8_thrown, 1, (some .int), 0, 0, kX8_thrown)
noncomputable def kX8_tired : zCode := [[some (zo_push 1 (.inl ((.ofNat 0, .ofNat 0), none))), some (zo_stI 2 2), some (zo_push 3 (.inl ((.ofNat 0, .ofNat 0), none))), some (zo_stI 4 3), some (zo_loadI 5 3), some (zo_loadA 6 0), some (zo_get 9 8 3), none, none, some (zo_ic zc_ge 27 12), none, none, none, none, none, none],
  [none, none, none, none, none, none, none, none, none, none, none, some (zo_loadI 28 2), some (zo_ret1 0 0 0)]]
noncomputable def mX8_tired : zM := (yX8_tired, cX8_tired, 4, (some .int), 0, 0, kX8_tired)
noncomputable def kX8_trade : zCode := [[some (zo_loadA 1 0), some (zo_push 2 (.inl ((.ofNat 0, .ofNat 0), none))), some (zo_put 5 8 11 0), none, none, some (zo_loadA 6 0), some (zo_get 9 8 1), none, none, some (zo_push 10 (.inl ((.ofNat 1, .ofNat 1), none))), some (zo_ic zc_ne 16 13), none, none, none, none, none],
  [some (zo_push 18 (.inl ((.ofNat 1000000000, .ofNat 1000000000), none))), none, some (zo_stI 19 1), some (zo_push 20 (.inl ((.negSucc 0, .negSucc 0), none))), some (zo_stI 21 2), some (zo_push 22 (.inl ((.negSucc 0, .negSucc 0), none))), some (zo_stI 23 3), some (zo_push 24 (.inl ((.ofNat 0, .ofNat 0), none))), some (zo_stI 26 4), none, some (zo_loadI 28 4), none, some (zo_loadA 29 0), some (zo_get 32 8 1), none, none],
  [some (zo_ic zc_ge 138 35), none, none, some (zo_loadI 37 4), none, some (zo_push 38 (.inl ((.ofNat 1, .ofNat 1), none))), some (zo_add 39), some (zo_stI 41 5), none, some (zo_loadI 43 5), none, some (zo_loadA 44 0), some (zo_get 47 8 1), none, none, some (zo_ic zc_ge 132 50)],
  [none, none, some (zo_loadA 51 0), some (zo_get 54 8 0), none, none, some (zo_loadA 55 0), some (zo_get 58 8 26), none, none, some (zo_push 59 (.inl ((.ofNat 0, .ofNat 0), none))), some (zo_call 62 191 3 0 0 0 0 zrecv0), none, none, some (zo_loadA 63 0), some (zo_get 66 8 26)],
  [none, none, some (zo_loadI 68 4), none, some (zo_loadA 69 0), some (zo_get 72 8 0), none, none, some (zo_loadI 74 5), none, some (zo_ald 75 0), some (zo_ast 76 0), some (zo_loadA 77 0), some (zo_get 80 8 26), none, none],
  [some (zo_loadI 82 5), none, some (zo_loadA 83 0), some (zo_get 86 8 0), none, none, some (zo_loadI 88 4), none, some (zo_ald 89 0), some (zo_ast 90 0), some (zo_loadA 91 0), some (zo_loadA 92 0), some (zo_get 95 8 26), none, none, some (zo_call 98 172 2 0 0 0 0 (zrecv 8))],
  [none, none, some (zo_loadA 99 0), some (zo_get 102 8 27), none, none, some (zo_call 105 14 1 0 0 0 0 zrecv0), none, none, some (zo_loadI 106 1), some (zo_ic zc_lt 112 109), none, none, some (zo_goto 126), none, none],
  [some (zo_loadA 113 0), some (zo_get 116 8 27), none, none, some (zo_call 119 14 1 0 0 0 0 zrecv0), none, none, some (zo_stI 120 1), some (zo_loadI 122 4), none, some (zo_stI 123 2), some (zo_loadI 125 5), none, some (zo_stI 126 3), some (zo_inc 129 5 (.ofNat 1)), none],
  [none, some (zo_goto 41), none, none, some (zo_inc 135 4 (.ofNat 1)), none, none, some (zo_goto 26), none, none, some (zo_loadA 139 0), some (zo_get 142 8 0), none, none, some (zo_loadA 143 0), some (zo_get 146 8 26)],
  [none, none, some (zo_push 147 (.inl ((.ofNat 0, .ofNat 0), none))), some (zo_call 150 191 3 0 0 0 0 zrecv0), none, none, some (zo_loadA 151 0), some (zo_loadA 152 0), some (zo_get 155 8 26), none, none, some (zo_call 158 172 2 0 0 0 0 (zrecv 8)), none, none, some (zo_loadA 159 0), some (zo_push 160 (.inl ((.ofNat 0, .ofNat 0), none)))],
  [some (zo_put 163 8 10 0), none, none, some (zo_loadA 164 0), some (zo_loadI 165 2), some (zo_i2l 166), some (zo_call 169 222 2 0 0 0 0 (zrecv 8)), none, none, some (zo_loadA 170 0), some (zo_loadI 171 3), some (zo_i2l 172), some (zo_call 175 222 2 0 0 0 0 (zrecv 8)), none, none, some (zo_loadA 176 0)],
  [some (zo_loadA 177 0), some (zo_get 180 8 27), none, none, some (zo_call 183 14 1 0 0 0 0 zrecv0), none, none, some (zo_i2l 184), some (zo_call 187 222 2 0 0 0 0 (zrecv 8)), none, none, some (zo_loadI 188 1), some (zo_ret1 0 0 0)]]
noncomputable def mX8_trade : zM := (yX8_trade, cX8_trade, 6, (some .int), 0, 0, kX8_trade)
noncomputable def kX8_undo : zCode := [[some (zo_loadA 1 0), some (zo_push 2 (.inl ((.ofNat 0, .ofNat 0), none))), some (zo_put 5 8 11 0), none, none, some (zo_loadA 6 0), some (zo_get 9 8 24), none, none, some (zo_if zd_ne 14 12), none, none, some (zo_push 13 (.inl ((.negSucc 0, .negSucc 0), none))), some (zo_ret1 0 0 0), none, none],
  [none, none, none, none, none, none, none, none, none, none, none, none, none, none, none, none],
  [none, none, none, none, none, none, none, none, none, none, none, none, none, none, none, none],
  [none, none, none, none, none, none, none, none, none, none, none, none, none, none, none]]
noncomputable def mX8_undo : zM := (yX8_undo, cX8_undo, 2, (some .int), 0, 0, kX8_undo)
noncomputable def kX8_vigil : zCode := [[some (zo_loadA 1 0), some (zo_push 2 (.inl ((.ofNat 0, .ofNat 0), none))), some (zo_put 5 8 11 0), none, none, some (zo_loadI 6 1), some (zo_push 7 (.inl ((.ofNat 0, .ofNat 0), none))), some (zo_push 9 (.inl ((.ofNat 60, .ofNat 60), none))), none, some (zo_call 12 181 3 0 0 0 0 zrecv0), none, none, some (zo_if zd_ne 17 15), none, none, some (zo_push 16 (.inl ((.negSucc 0, .negSucc 0), none)))],
  [some (zo_ret1 0 0 0), some (zo_loadA 18 0), some (zo_get 21 8 0), none, none, some (zo_loadA 22 0), some (zo_get 25 8 26), none, none, some (zo_push 26 (.inl ((.ofNat 0, .ofNat 0), none))), some (zo_call 29 191 3 0 0 0 0 zrecv0), none, none, some (zo_push 30 (.inl ((.ofNat 0, .ofNat 0), none))), some (zo_stI 31 2), some (zo_push 32 (.inl ((.negSucc 0, .negSucc 0), none)))],
  [some (zo_stI 33 3), some (zo_push 34 (.inl ((.ofNat 0, .ofNat 0), none))), some (zo_stI 36 4), none, some (zo_push 37 (.inl ((.ofNat 0, .ofNat 0), none))), some (zo_stI 39 5), none, some (zo_loadI 41 5), none, some (zo_loadI 42 1), some (zo_ic zc_ge 96 45), none, none, some (zo_loadA 46 0), some (zo_loadA 47 0), some (zo_get 50 8 26)],
  [none, none, some (zo_call 53 172 2 0 0 0 0 (zrecv 8)), none, none, some (zo_loadA 54 0), some (zo_get 57 8 27), none, none, some (zo_if zd_ne 67 60), none, none, none, none, none, none],
  [none, none, none, some (zo_push 68 (.inl ((.ofNat 0, .ofNat 0), none))), some (zo_stI 70 4), none, some (zo_loadI 72 4), none, some (zo_loadI 73 2), some (zo_ic zc_gt 79 76), none, none, some (zo_goto 90), none, none, none],
  [none, none, none, none, none, none, none, none, none, none, some (zo_inc 93 5 (.ofNat 1)), none, none, some (zo_goto 39), none, none],
  [some (zo_loadA 97 0), some (zo_push 98 (.inl ((.ofNat 0, .ofNat 0), none))), some (zo_put 101 8 10 0), none, none, some (zo_loadA 102 0), some (zo_loadI 103 3), some (zo_i2l 104), some (zo_call 107 222 2 0 0 0 0 (zrecv 8)), none, none, some (zo_loadI 108 2), some (zo_ret1 0 0 0)]]
noncomputable def mX8_vigil : zM := (yX8_vigil, cX8_vigil, 6, (some .int), 0, 0, kX8_vigil)
noncomputable def kX8_wasRight : zCode := [[some (zo_loadA 1 0), some (zo_get 4 8 15), none, none, some (zo_loadA 5 0), some (zo_get 8 8 13), none, none, some (zo_ic zc_ge 19 11), none, none, none, none, none, none, none],
  [none, none, none, some (zo_loadA 20 0), some (zo_call 23 163 1 0 0 0 0 (zrecv 8)), none, none, some (zo_ret1 0 0 2)]]
noncomputable def mX8_wasRight : zM := (yX8_wasRight, cX8_wasRight, 1, (some .boolean), 0, 0, kX8_wasRight)
noncomputable def kX8_well : zCode := [[some (zo_push 1 (.inl ((.ofNat 1, .ofNat 1), none))), some (zo_loadA 2 0), some (zo_get 5 8 3), none, none, some (zo_i2 6 zi_shl), some (zo_push 7 (.inl ((.ofNat 1, .ofNat 1), none))), some (zo_sub 8), some (zo_loadA 9 0), some (zo_loadA 10 0), some (zo_get 13 8 0), none, none, some (zo_call 16 180 2 0 0 0 0 (zrecv 8)), none, none],
  [some (zo_push 17 (.inl ((.negSucc 0, .negSucc 0), none))), some (zo_i2 18 zi_xor), some (zo_i2 19 zi_and), some (zo_ret1 0 0 0)]]
noncomputable def mX8_well : zM := (yX8_well, cX8_well, 1, (some .int), 0, 0, kX8_well)
noncomputable def kX8_year : zCode := [[some (zo_loadA 1 0), some (zo_push 2 (.inl ((.ofNat 0, .ofNat 0), none))), some (zo_put 5 8 11 0), none, none, some (zo_loadA 6 0), some (zo_push 8 (.inl ((.ofNat 60, .ofNat 60), none))), none, some (zo_call 11 151 2 0 0 0 0 (zrecv 8)), none, none, some (zo_push 12 (.inl ((.ofNat 0, .ofNat 0), none))), some (zo_stI 13 1), some (zo_loadA 14 0), some (zo_call 17 163 1 0 0 0 0 (zrecv 8)), none],
  [none, some (zo_if zd_eq 44 20), none, none, some (zo_loadA 21 0), some (zo_get 24 8 15), none, none, some (zo_loadA 25 0), some (zo_get 28 8 13), none, none, some (zo_ic zc_ge 44 31), none, none, none],
  [none, none, none, none, none, none, none, none, none, none, none, none, some (zo_loadA 45 0), some (zo_call 48 231 1 0 0 0 0 (zrecv 8)), none, none],
  [some (zo_if zd_ne 58 51), none, none, none, none, none, none, none, none, none, some (zo_loadA 59 0), some (zo_get 62 8 0), none, none, some (zo_loadA 63 0), some (zo_get 66 8 25)],
  [none, none, some (zo_push 67 (.inl ((.ofNat 0, .ofNat 0), none))), some (zo_call 70 191 3 0 0 0 0 zrecv0), none, none, some (zo_push 71 (.inl ((.ofNat 0, .ofNat 0), none))), some (zo_stI 72 2), some (zo_loadI 73 2), some (zo_loadI 74 1), some (zo_ic zc_ge 118 77), none, none, none, none, none],
  [none, none, none, none, none, none, none, none, none, none, none, none, none, none, none, none],
  [none, none, none, none, none, none, none, none, none, none, none, none, none, none, none, none],
  [none, none, none, none, none, none, some (zo_loadI 119 2), some (zo_if zd_le 130 122), none, none, none, none, none, none, none, none],
  [none, none, some (zo_loadA 131 0), some (zo_push 132 (.inl ((.ofNat 0, .ofNat 0), none))), some (zo_put 135 8 10 0), none, none, some (zo_loadA 136 0), some (zo_loadI 137 2), some (zo_loadI 138 1), some (zo_ic zc_ge 145 141), none, none, none, none, none],
  [none, some (zo_push 146 (.inr (.inl (.ofNat 0, .ofNat 0)))), some (zo_call 149 222 2 0 0 0 0 (zrecv 8)), none, none, some (zo_loadA 150 0), some (zo_loadA 151 0), some (zo_get 154 8 0), none, none, some (zo_push 156 (.inl ((.ofNat 25, .ofNat 25), none))), none, some (zo_ald 157 0), some (zo_i2l 158), some (zo_call 161 222 2 0 0 0 0 (zrecv 8)), none],
  [none, some (zo_loadI 162 2), some (zo_ret1 0 0 0)]]
noncomputable def mX8_year : zM := (yX8_year, cX8_year, 3, (some .int), 0, 0, kX8_year)
noncomputable def kX8_years : zCode := [[some (zo_loadA 1 0), some (zo_push 2 (.inl ((.ofNat 0, .ofNat 0), none))), some (zo_put 5 8 11 0), none, none, some (zo_loadI 6 2), some (zo_push 7 (.inl ((.ofNat 1, .ofNat 1), none))), some (zo_push 9 (.inl ((.ofNat 60, .ofNat 60), none))), none, some (zo_call 12 181 3 0 0 0 0 zrecv0), none, none, some (zo_if zd_ne 17 15), none, none, some (zo_push 16 (.inl ((.negSucc 0, .negSucc 0), none)))],
  [some (zo_ret1 0 0 0), some (zo_loadA 18 0), some (zo_loadI 19 1), some (zo_put 22 8 46 0), none, none, some (zo_loadA 23 0), some (zo_get 26 8 0), none, none, some (zo_loadA 27 0), some (zo_get 30 8 26), none, none, some (zo_push 31 (.inl ((.ofNat 0, .ofNat 0), none))), some (zo_call 34 191 3 0 0 0 0 zrecv0)],
  [none, none, some (zo_push 35 (.inl ((.ofNat 0, .ofNat 0), none))), some (zo_stI 36 3), some (zo_loadI 37 3), some (zo_loadI 38 2), some (zo_ic zc_ge 148 41), none, none, some (zo_loadA 42 0), some (zo_push 43 (.inl ((.ofNat 4, .ofNat 4), none))), some (zo_call 46 156 2 0 0 0 0 (zrecv 8)), none, none, some (zo_stI 48 4), none],
  [some (zo_loadI 50 4), none, some (zo_push 51 (.inl ((.ofNat 2, .ofNat 2), none))), some (zo_ic zc_ge 62 54), none, none, some (zo_loadA 55 0), some (zo_loadA 56 0), some (zo_get 59 8 26), none, none, some (zo_call 62 172 2 0 0 0 0 (zrecv 8)), none, none, some (zo_loadI 64 4), none],
  [some (zo_push 65 (.inl ((.ofNat 2, .ofNat 2), none))), some (zo_ic zc_lt 142 68), none, none, some (zo_loadA 69 0), some (zo_get 72 8 3), none, none, some (zo_if zd_ne 78 75), none, none, some (zo_goto 142), none, none, none, none],
  [none, none, none, none, none, none, none, none, none, none, none, none, none, none, none, none],
  [none, none, none, none, none, none, none, none, none, none, none, none, none, none, none, none],
  [none, none, none, none, none, none, none, none, none, none, none, none, none, none, none, none],
  [none, none, none, none, none, none, none, none, none, none, none, none, none, none, some (zo_inc 145 3 (.ofNat 1)), none],
  [none, some (zo_goto 36), none, none, some (zo_loadA 149 0), some (zo_push 150 (.inl ((.ofNat 0, .ofNat 0), none))), some (zo_put 153 8 10 0), none, none, some (zo_loadA 154 0), some (zo_loadA 155 0), some (zo_get 158 8 26), none, none, some (zo_push 160 (.inl ((.ofNat 26, .ofNat 26), none))), none],
  [some (zo_ald 161 0), some (zo_loadA 162 0), some (zo_get 165 8 0), none, none, some (zo_push 167 (.inl ((.ofNat 26, .ofNat 26), none))), none, some (zo_ald 168 0), some (zo_sub 169), some (zo_i2l 170), some (zo_call 173 222 2 0 0 0 0 (zrecv 8)), none, none, some (zo_loadA 174 0), some (zo_loadA 175 0), some (zo_loadA 176 0)],
  [some (zo_get 179 8 26), none, none, some (zo_call 182 227 2 0 0 0 0 (zrecv 8)), none, none, some (zo_i2l 183), some (zo_call 186 222 2 0 0 0 0 (zrecv 8)), none, none, some (zo_loadA 187 0), some (zo_get 190 8 26), none, none, some (zo_push 192 (.inl ((.ofNat 25, .ofNat 25), none))), none],
  [some (zo_ald 193 0), some (zo_loadA 194 0), some (zo_get 197 8 0), none, none, some (zo_push 199 (.inl ((.ofNat 25, .ofNat 25), none))), none, some (zo_ald 200 0), some (zo_sub 201), some (zo_ret1 0 0 0)]]
noncomputable def mX8_years : zM := (yX8_years, cX8_years, 6, (some .int), 0, 0, kX8_years)
noncomputable def zprog : List zM := [mJ0_charAt_5068e, mJ0_checkBoundsBeginEnd_23922, mJ0_checkIndex_df160, mJ0_coder_7d493, mJ0_indexOf_0f7a4, mJ0_indexOf_7cf53, mJ0_isLatin1_aae02, mJ0_length_8abf5, mJ1_canEncode_9a6ad, mJ1_charAt_3b067, mJ1_indexOfChar_4cfef, mJ1_indexOf_4cfef, mJ3_checkFromToIndex_8c36e, mJ3_checkIndex_8e157, mJ6_bitCount_0f7a4, mJ6_numberOfTrailingZeros_0f7a4, mJ7_fill_53178, mJ7_fill_d0a16, mX0_areTwo, mX0_has, mX0_init, mX0_isAble, mX0_isSomebodyOrNobody, mX0_pass, mX0_passAll, mX0_readRiders, mX0_watch, mX1_add, mX1_clear, mX1_init, mX1_tell, mX1_tell_, mX2_init, mX2_pop, mX2_push, mX3_await, mX3_begin, mX3_binding, mX3_closeBracket, mX3_emit, mX3_init, mX3_openBracket, mX3_read, mX3_readFirst, mX3_reckonDownTo, mX3_takeBehindThing, mX3_takeThing, mX4_addLeast, mX4_addLeastMost, mX4_addStep, mX4_addWays, mX4_canHold, mX4_findLacks, mX4_findLacksIn, mX4_init, mX4_lacks, mX4_least, mX4_leastMost, mX4_open, mX4_orderByWidth, mX4_ways, mX4_weigh, mX5_copy, mX5_init, mX5_mostTired, mX5_tiredOfAll, mX6_add, mX6_cut, mX6_empty, mX6_init, mX7_able, mX7_again, mX7_ask, mX7_away, mX7_bare, mX7_chance, mX7_changes, mX7_count, mX7_draw, mX7_drawAct, mX7_easiest, mX7_easiestWithout, mX7_end, mX7_fairest, mX7_fewest, mX7_first, mX7_fits, mX7_forget, mX7_found, mX7_gaps, mX7_gapsByTrade, mX7_give, mX7_greatestShared, mX7_hard, mX7_hardOfRota, mX7_held, mX7_ill, mX7_init, mX7_isAtRest, mX7_isDigit, mX7_isHour, mX7_keep, mX7_keystone, mX7_later, mX7_law, mX7_lowest, mX7_meets, mX7_mended, mX7_missed, mX7_nights, mX7_openFitting, mX7_openSeats, mX7_paid, mX7_power, mX7_priceByHard, mX7_priceByName, mX7_readSpare, mX7_rests, mX7_rider, mX7_riders, mX7_rota, mX7_rotaFault, mX7_rotas, mX7_row, mX7_rule, mX7_set, mX7_shared, mX7_sheet, mX7_sign, mX7_smoothest, mX7_spent, mX7_sure, mX7_takes, mX7_tellFraction, mX7_tellWays, mX7_thin, mX7_trade, mX7_undo, mX7_vigil, mX7_wellOnes, mX7_year, mX7_yearFault, mX7_years, mX8_able, mX8_ableMany, mX8_again, mX8_areTwo, mX8_ask, mX8_away, mX8_bare, mX8_begin, mX8_beginText, mX8_changes, mX8_common, mX8_count, mX8_countWays, mX8_draw, mX8_easiest, mX8_easiestBut, mX8_end, mX8_fairest, mX8_fault, mX8_fewest, mX8_fine, mX8_first, mX8_firstGets, mX8_fits, mX8_fitting, mX8_forget, mX8_found, mX8_gaps, mX8_give, mX8_goNight, mX8_goNights, mX8_hard, mX8_hardOfRota, mX8_held, mX8_heldParts, mX8_here, mX8_ill, mX8_illBits, mX8_in, mX8_init, mX8_isGift, mX8_isHour, mX8_isMan, mX8_isRest, mX8_keep, mX8_keystone, mX8_later, mX8_law, mX8_lay, mX8_layCanBe, mX8_layFound, mX8_layMay, mX8_lost, mX8_meets, mX8_mended, mX8_missed, mX8_night, mX8_nights, mX8_otherGets, mX8_paid, mX8_power, mX8_readRule, mX8_remember, mX8_rests, mX8_rider, mX8_riders, mX8_rota, mX8_rotas, mX8_row, mX8_rule, mX8_set, mX8_shared, mX8_sheet, mX8_sign, mX8_smoothest, mX8_solve, mX8_spent, mX8_sure, mX8_takes, mX8_tell, mX8_tellPart, mX8_tellWays, mX8_thin, mX8_thrown, mX8_tired, mX8_trade, mX8_undo, mX8_vigil, mX8_wasRight, mX8_well, mX8_year, mX8_years]
