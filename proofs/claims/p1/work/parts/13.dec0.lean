theorem dJ0_charAt_5068e_0 : decode cJ0_charAt_5068e 0 = .ok (.aload_n 0, 1) := by decide +kernel
theorem dJ0_charAt_5068e_1 : decode cJ0_charAt_5068e 1 = .ok (.invokevirtual 492, 3) := by decide +kernel
theorem dJ0_charAt_5068e_4 : decode cJ0_charAt_5068e 4 = .ok (.ifCond .eq 12, 3) := by decide +kernel
theorem dJ0_charAt_5068e_7 : decode cJ0_charAt_5068e 7 = .ok (.aload_n 0, 1) := by decide +kernel
theorem dJ0_charAt_5068e_8 : decode cJ0_charAt_5068e 8 = .ok (.getfield 9, 3) := by decide +kernel
theorem dJ0_charAt_5068e_11 : decode cJ0_charAt_5068e 11 = .ok (.iload_n 1, 1) := by decide +kernel
theorem dJ0_charAt_5068e_12 : decode cJ0_charAt_5068e 12 = .ok (.invokestatic 495, 3) := by decide +kernel
theorem dJ0_charAt_5068e_15 : decode cJ0_charAt_5068e 15 = .ok (.ireturn, 1) := by decide +kernel
theorem dJ0_charAt_5068e_16 : decode cJ0_charAt_5068e 16 = .ok (.aload_n 0, 1) := by decide +kernel
theorem dJ0_charAt_5068e_17 : decode cJ0_charAt_5068e 17 = .ok (.getfield 9, 3) := by decide +kernel
theorem dJ0_charAt_5068e_20 : decode cJ0_charAt_5068e 20 = .ok (.iload_n 1, 1) := by decide +kernel
theorem dJ0_charAt_5068e_24 : decode cJ0_charAt_5068e 24 = .ok (.ireturn, 1) := by decide +kernel
theorem dJ0_checkBoundsBeginEnd_23922_0 : decode cJ0_checkBoundsBeginEnd_23922 0 = .ok (.iload_n 0, 1) := by decide +kernel
theorem dJ0_checkBoundsBeginEnd_23922_1 : decode cJ0_checkBoundsBeginEnd_23922 1 = .ok (.iload_n 1, 1) := by decide +kernel
theorem dJ0_checkBoundsBeginEnd_23922_2 : decode cJ0_checkBoundsBeginEnd_23922 2 = .ok (.iload_n 2, 1) := by decide +kernel
theorem dJ0_checkBoundsBeginEnd_23922_3 : decode cJ0_checkBoundsBeginEnd_23922 3 = .ok (.getstatic 1053, 3) := by decide +kernel
theorem dJ0_checkBoundsBeginEnd_23922_6 : decode cJ0_checkBoundsBeginEnd_23922 6 = .ok (.invokestatic 1062, 3) := by decide +kernel
theorem dJ0_checkBoundsBeginEnd_23922_9 : decode cJ0_checkBoundsBeginEnd_23922 9 = .ok (.pop, 1) := by decide +kernel
theorem dJ0_checkBoundsBeginEnd_23922_10 : decode cJ0_checkBoundsBeginEnd_23922 10 = .ok (.return_, 1) := by decide +kernel
theorem dJ0_checkIndex_df160_0 : decode cJ0_checkIndex_df160 0 = .ok (.iload_n 0, 1) := by decide +kernel
theorem dJ0_checkIndex_df160_1 : decode cJ0_checkIndex_df160 1 = .ok (.iload_n 1, 1) := by decide +kernel
theorem dJ0_checkIndex_df160_2 : decode cJ0_checkIndex_df160 2 = .ok (.getstatic 1053, 3) := by decide +kernel
theorem dJ0_checkIndex_df160_5 : decode cJ0_checkIndex_df160 5 = .ok (.invokestatic 1059, 3) := by decide +kernel
theorem dJ0_checkIndex_df160_8 : decode cJ0_checkIndex_df160 8 = .ok (.pop, 1) := by decide +kernel
theorem dJ0_checkIndex_df160_9 : decode cJ0_checkIndex_df160 9 = .ok (.return_, 1) := by decide +kernel
theorem dJ0_coder_7d493_0 : decode cJ0_coder_7d493 0 = .ok (.getstatic 38, 3) := by decide +kernel
theorem dJ0_coder_7d493_3 : decode cJ0_coder_7d493 3 = .ok (.ifCond .eq 10, 3) := by decide +kernel
theorem dJ0_coder_7d493_6 : decode cJ0_coder_7d493 6 = .ok (.aload_n 0, 1) := by decide +kernel
theorem dJ0_coder_7d493_7 : decode cJ0_coder_7d493 7 = .ok (.getfield 15, 3) := by decide +kernel
theorem dJ0_coder_7d493_10 : decode cJ0_coder_7d493 10 = .ok (.goto 4, 3) := by decide +kernel
theorem dJ0_coder_7d493_13 : decode cJ0_coder_7d493 13 = .ok (.iconst 1, 1) := by decide +kernel
theorem dJ0_coder_7d493_14 : decode cJ0_coder_7d493 14 = .ok (.ireturn, 1) := by decide +kernel
theorem dJ0_indexOf_0f7a4_0 : decode cJ0_indexOf_0f7a4 0 = .ok (.aload_n 0, 1) := by decide +kernel
theorem dJ0_indexOf_0f7a4_1 : decode cJ0_indexOf_0f7a4 1 = .ok (.iload_n 1, 1) := by decide +kernel
theorem dJ0_indexOf_0f7a4_2 : decode cJ0_indexOf_0f7a4 2 = .ok (.iconst 0, 1) := by decide +kernel
theorem dJ0_indexOf_0f7a4_3 : decode cJ0_indexOf_0f7a4 3 = .ok (.invokevirtual 633, 3) := by decide +kernel
theorem dJ0_indexOf_0f7a4_6 : decode cJ0_indexOf_0f7a4 6 = .ok (.ireturn, 1) := by decide +kernel
theorem dJ0_indexOf_7cf53_0 : decode cJ0_indexOf_7cf53 0 = .ok (.aload_n 0, 1) := by decide +kernel
theorem dJ0_indexOf_7cf53_1 : decode cJ0_indexOf_7cf53 1 = .ok (.invokevirtual 492, 3) := by decide +kernel
theorem dJ0_indexOf_7cf53_4 : decode cJ0_indexOf_7cf53 4 = .ok (.ifCond .eq 19, 3) := by decide +kernel
theorem dJ0_indexOf_7cf53_7 : decode cJ0_indexOf_7cf53 7 = .ok (.aload_n 0, 1) := by decide +kernel
theorem dJ0_indexOf_7cf53_8 : decode cJ0_indexOf_7cf53 8 = .ok (.getfield 9, 3) := by decide +kernel
theorem dJ0_indexOf_7cf53_11 : decode cJ0_indexOf_7cf53 11 = .ok (.iload_n 1, 1) := by decide +kernel
theorem dJ0_indexOf_7cf53_12 : decode cJ0_indexOf_7cf53 12 = .ok (.iload_n 2, 1) := by decide +kernel
theorem dJ0_indexOf_7cf53_13 : decode cJ0_indexOf_7cf53 13 = .ok (.aload_n 0, 1) := by decide +kernel
theorem dJ0_indexOf_7cf53_14 : decode cJ0_indexOf_7cf53 14 = .ok (.invokevirtual 505, 3) := by decide +kernel
theorem dJ0_indexOf_7cf53_17 : decode cJ0_indexOf_7cf53 17 = .ok (.invokestatic 637, 3) := by decide +kernel
theorem dJ0_indexOf_7cf53_20 : decode cJ0_indexOf_7cf53 20 = .ok (.goto 16, 3) := by decide +kernel
theorem dJ0_indexOf_7cf53_23 : decode cJ0_indexOf_7cf53 23 = .ok (.aload_n 0, 1) := by decide +kernel
theorem dJ0_indexOf_7cf53_24 : decode cJ0_indexOf_7cf53 24 = .ok (.getfield 9, 3) := by decide +kernel
theorem dJ0_indexOf_7cf53_27 : decode cJ0_indexOf_7cf53 27 = .ok (.iload_n 1, 1) := by decide +kernel
theorem dJ0_indexOf_7cf53_28 : decode cJ0_indexOf_7cf53 28 = .ok (.iload_n 2, 1) := by decide +kernel
theorem dJ0_indexOf_7cf53_29 : decode cJ0_indexOf_7cf53 29 = .ok (.aload_n 0, 1) := by decide +kernel
theorem dJ0_indexOf_7cf53_30 : decode cJ0_indexOf_7cf53 30 = .ok (.invokevirtual 505, 3) := by decide +kernel
theorem dJ0_indexOf_7cf53_36 : decode cJ0_indexOf_7cf53 36 = .ok (.ireturn, 1) := by decide +kernel
theorem dJ0_isLatin1_aae02_0 : decode cJ0_isLatin1_aae02 0 = .ok (.getstatic 38, 3) := by decide +kernel
theorem dJ0_isLatin1_aae02_3 : decode cJ0_isLatin1_aae02 3 = .ok (.ifCond .eq 14, 3) := by decide +kernel
theorem dJ0_isLatin1_aae02_6 : decode cJ0_isLatin1_aae02 6 = .ok (.aload_n 0, 1) := by decide +kernel
theorem dJ0_isLatin1_aae02_7 : decode cJ0_isLatin1_aae02 7 = .ok (.getfield 15, 3) := by decide +kernel
theorem dJ0_isLatin1_aae02_10 : decode cJ0_isLatin1_aae02 10 = .ok (.ifCond .ne 7, 3) := by decide +kernel
theorem dJ0_isLatin1_aae02_13 : decode cJ0_isLatin1_aae02 13 = .ok (.iconst 1, 1) := by decide +kernel
theorem dJ0_isLatin1_aae02_14 : decode cJ0_isLatin1_aae02 14 = .ok (.goto 4, 3) := by decide +kernel
theorem dJ0_isLatin1_aae02_17 : decode cJ0_isLatin1_aae02 17 = .ok (.iconst 0, 1) := by decide +kernel
theorem dJ0_isLatin1_aae02_18 : decode cJ0_isLatin1_aae02 18 = .ok (.ireturn, 1) := by decide +kernel
theorem dJ0_length_8abf5_0 : decode cJ0_length_8abf5 0 = .ok (.aload_n 0, 1) := by decide +kernel
theorem dJ0_length_8abf5_1 : decode cJ0_length_8abf5 1 = .ok (.getfield 9, 3) := by decide +kernel
theorem dJ0_length_8abf5_4 : decode cJ0_length_8abf5 4 = .ok (.arraylength, 1) := by decide +kernel
theorem dJ0_length_8abf5_5 : decode cJ0_length_8abf5 5 = .ok (.aload_n 0, 1) := by decide +kernel
theorem dJ0_length_8abf5_6 : decode cJ0_length_8abf5 6 = .ok (.invokevirtual 335, 3) := by decide +kernel
theorem dJ0_length_8abf5_9 : decode cJ0_length_8abf5 9 = .ok (.ishr, 1) := by decide +kernel
theorem dJ0_length_8abf5_10 : decode cJ0_length_8abf5 10 = .ok (.ireturn, 1) := by decide +kernel
theorem dJ1_canEncode_9a6ad_0 : decode cJ1_canEncode_9a6ad 0 = .ok (.iload_n 0, 1) := by decide +kernel
theorem dJ1_canEncode_9a6ad_1 : decode cJ1_canEncode_9a6ad 1 = .ok (.ifCond .lt 14, 3) := by decide +kernel
theorem dJ1_canEncode_9a6ad_4 : decode cJ1_canEncode_9a6ad 4 = .ok (.iload_n 0, 1) := by decide +kernel
theorem dJ1_canEncode_9a6ad_5 : decode cJ1_canEncode_9a6ad 5 = .ok (.sipush 255, 3) := by decide +kernel
theorem dJ1_canEncode_9a6ad_8 : decode cJ1_canEncode_9a6ad 8 = .ok (.if_icmp .gt 7, 3) := by decide +kernel
theorem dJ1_canEncode_9a6ad_11 : decode cJ1_canEncode_9a6ad 11 = .ok (.iconst 1, 1) := by decide +kernel
theorem dJ1_canEncode_9a6ad_12 : decode cJ1_canEncode_9a6ad 12 = .ok (.goto 4, 3) := by decide +kernel
theorem dJ1_canEncode_9a6ad_15 : decode cJ1_canEncode_9a6ad 15 = .ok (.iconst 0, 1) := by decide +kernel
theorem dJ1_canEncode_9a6ad_16 : decode cJ1_canEncode_9a6ad 16 = .ok (.ireturn, 1) := by decide +kernel
theorem dJ1_charAt_3b067_0 : decode cJ1_charAt_3b067 0 = .ok (.iload_n 1, 1) := by decide +kernel
theorem dJ1_charAt_3b067_1 : decode cJ1_charAt_3b067 1 = .ok (.aload_n 0, 1) := by decide +kernel
theorem dJ1_charAt_3b067_2 : decode cJ1_charAt_3b067 2 = .ok (.arraylength, 1) := by decide +kernel
theorem dJ1_charAt_3b067_3 : decode cJ1_charAt_3b067 3 = .ok (.invokestatic 9, 3) := by decide +kernel
theorem dJ1_charAt_3b067_6 : decode cJ1_charAt_3b067 6 = .ok (.aload_n 0, 1) := by decide +kernel
theorem dJ1_charAt_3b067_7 : decode cJ1_charAt_3b067 7 = .ok (.iload_n 1, 1) := by decide +kernel
theorem dJ1_charAt_3b067_8 : decode cJ1_charAt_3b067 8 = .ok (.baload, 1) := by decide +kernel
theorem dJ1_charAt_3b067_9 : decode cJ1_charAt_3b067 9 = .ok (.sipush 255, 3) := by decide +kernel
theorem dJ1_charAt_3b067_12 : decode cJ1_charAt_3b067 12 = .ok (.iand, 1) := by decide +kernel
theorem dJ1_charAt_3b067_13 : decode cJ1_charAt_3b067 13 = .ok (.i2c, 1) := by decide +kernel
theorem dJ1_charAt_3b067_14 : decode cJ1_charAt_3b067 14 = .ok (.ireturn, 1) := by decide +kernel
theorem dJ1_indexOfChar_4cfef_0 : decode cJ1_indexOfChar_4cfef 0 = .ok (.iload_n 1, 1) := by decide +kernel
theorem dJ1_indexOfChar_4cfef_1 : decode cJ1_indexOfChar_4cfef 1 = .ok (.i2b, 1) := by decide +kernel
theorem dJ1_indexOfChar_4cfef_2 : decode cJ1_indexOfChar_4cfef 2 = .ok (.istore 4, 2) := by decide +kernel
theorem dJ1_indexOfChar_4cfef_4 : decode cJ1_indexOfChar_4cfef 4 = .ok (.iload_n 2, 1) := by decide +kernel
theorem dJ1_indexOfChar_4cfef_5 : decode cJ1_indexOfChar_4cfef 5 = .ok (.istore 5, 2) := by decide +kernel
theorem dJ1_indexOfChar_4cfef_7 : decode cJ1_indexOfChar_4cfef 7 = .ok (.iload 5, 2) := by decide +kernel
theorem dJ1_indexOfChar_4cfef_9 : decode cJ1_indexOfChar_4cfef 9 = .ok (.iload_n 3, 1) := by decide +kernel
theorem dJ1_indexOfChar_4cfef_10 : decode cJ1_indexOfChar_4cfef 10 = .ok (.if_icmp .ge 21, 3) := by decide +kernel
theorem dJ1_indexOfChar_4cfef_13 : decode cJ1_indexOfChar_4cfef 13 = .ok (.aload_n 0, 1) := by decide +kernel
theorem dJ1_indexOfChar_4cfef_14 : decode cJ1_indexOfChar_4cfef 14 = .ok (.iload 5, 2) := by decide +kernel
theorem dJ1_indexOfChar_4cfef_16 : decode cJ1_indexOfChar_4cfef 16 = .ok (.baload, 1) := by decide +kernel
theorem dJ1_indexOfChar_4cfef_17 : decode cJ1_indexOfChar_4cfef 17 = .ok (.iload 4, 2) := by decide +kernel
theorem dJ1_indexOfChar_4cfef_19 : decode cJ1_indexOfChar_4cfef 19 = .ok (.if_icmp .ne 6, 3) := by decide +kernel
theorem dJ1_indexOfChar_4cfef_22 : decode cJ1_indexOfChar_4cfef 22 = .ok (.iload 5, 2) := by decide +kernel
theorem dJ1_indexOfChar_4cfef_24 : decode cJ1_indexOfChar_4cfef 24 = .ok (.ireturn, 1) := by decide +kernel
theorem dJ1_indexOfChar_4cfef_25 : decode cJ1_indexOfChar_4cfef 25 = .ok (.iinc 5 1, 3) := by decide +kernel
theorem dJ1_indexOfChar_4cfef_28 : decode cJ1_indexOfChar_4cfef 28 = .ok (.goto (-21), 3) := by decide +kernel
theorem dJ1_indexOfChar_4cfef_31 : decode cJ1_indexOfChar_4cfef 31 = .ok (.iconst (-1), 1) := by decide +kernel
theorem dJ1_indexOfChar_4cfef_32 : decode cJ1_indexOfChar_4cfef 32 = .ok (.ireturn, 1) := by decide +kernel
theorem dJ1_indexOf_4cfef_0 : decode cJ1_indexOf_4cfef 0 = .ok (.iload_n 1, 1) := by decide +kernel
theorem dJ1_indexOf_4cfef_1 : decode cJ1_indexOf_4cfef 1 = .ok (.invokestatic 88, 3) := by decide +kernel
theorem dJ1_indexOf_4cfef_4 : decode cJ1_indexOf_4cfef 4 = .ok (.ifCond .ne 5, 3) := by decide +kernel
theorem dJ1_indexOf_4cfef_7 : decode cJ1_indexOf_4cfef 7 = .ok (.iconst (-1), 1) := by decide +kernel
theorem dJ1_indexOf_4cfef_8 : decode cJ1_indexOf_4cfef 8 = .ok (.ireturn, 1) := by decide +kernel
theorem dJ1_indexOf_4cfef_9 : decode cJ1_indexOf_4cfef 9 = .ok (.iload_n 2, 1) := by decide +kernel
theorem dJ1_indexOf_4cfef_10 : decode cJ1_indexOf_4cfef 10 = .ok (.iconst 0, 1) := by decide +kernel
theorem dJ1_indexOf_4cfef_11 : decode cJ1_indexOf_4cfef 11 = .ok (.invokestatic 92, 3) := by decide +kernel
theorem dJ1_indexOf_4cfef_14 : decode cJ1_indexOf_4cfef 14 = .ok (.istore_n 2, 1) := by decide +kernel
theorem dJ1_indexOf_4cfef_15 : decode cJ1_indexOf_4cfef 15 = .ok (.iload_n 3, 1) := by decide +kernel
theorem dJ1_indexOf_4cfef_16 : decode cJ1_indexOf_4cfef 16 = .ok (.aload_n 0, 1) := by decide +kernel
theorem dJ1_indexOf_4cfef_17 : decode cJ1_indexOf_4cfef 17 = .ok (.arraylength, 1) := by decide +kernel
theorem dJ1_indexOf_4cfef_18 : decode cJ1_indexOf_4cfef 18 = .ok (.invokestatic 38, 3) := by decide +kernel
theorem dJ1_indexOf_4cfef_21 : decode cJ1_indexOf_4cfef 21 = .ok (.istore_n 3, 1) := by decide +kernel
theorem dJ1_indexOf_4cfef_22 : decode cJ1_indexOf_4cfef 22 = .ok (.iload_n 2, 1) := by decide +kernel
theorem dJ1_indexOf_4cfef_23 : decode cJ1_indexOf_4cfef 23 = .ok (.iload_n 3, 1) := by decide +kernel
theorem dJ1_indexOf_4cfef_24 : decode cJ1_indexOf_4cfef 24 = .ok (.if_icmp .lt 5, 3) := by decide +kernel
theorem dJ1_indexOf_4cfef_27 : decode cJ1_indexOf_4cfef 27 = .ok (.iconst (-1), 1) := by decide +kernel
theorem dJ1_indexOf_4cfef_28 : decode cJ1_indexOf_4cfef 28 = .ok (.ireturn, 1) := by decide +kernel
theorem dJ1_indexOf_4cfef_29 : decode cJ1_indexOf_4cfef 29 = .ok (.aload_n 0, 1) := by decide +kernel
theorem dJ1_indexOf_4cfef_30 : decode cJ1_indexOf_4cfef 30 = .ok (.iload_n 1, 1) := by decide +kernel
theorem dJ1_indexOf_4cfef_31 : decode cJ1_indexOf_4cfef 31 = .ok (.iload_n 2, 1) := by decide +kernel
theorem dJ1_indexOf_4cfef_32 : decode cJ1_indexOf_4cfef 32 = .ok (.iload_n 3, 1) := by decide +kernel
theorem dJ1_indexOf_4cfef_33 : decode cJ1_indexOf_4cfef 33 = .ok (.invokestatic 95, 3) := by decide +kernel
theorem dJ1_indexOf_4cfef_36 : decode cJ1_indexOf_4cfef 36 = .ok (.ireturn, 1) := by decide +kernel
theorem dJ3_checkFromToIndex_8c36e_0 : decode cJ3_checkFromToIndex_8c36e 0 = .ok (.iload_n 0, 1) := by decide +kernel
theorem dJ3_checkFromToIndex_8c36e_1 : decode cJ3_checkFromToIndex_8c36e 1 = .ok (.ifCond .lt 13, 3) := by decide +kernel
theorem dJ3_checkFromToIndex_8c36e_4 : decode cJ3_checkFromToIndex_8c36e 4 = .ok (.iload_n 0, 1) := by decide +kernel
theorem dJ3_checkFromToIndex_8c36e_5 : decode cJ3_checkFromToIndex_8c36e 5 = .ok (.iload_n 1, 1) := by decide +kernel
theorem dJ3_checkFromToIndex_8c36e_6 : decode cJ3_checkFromToIndex_8c36e 6 = .ok (.if_icmp .gt 8, 3) := by decide +kernel
theorem dJ3_checkFromToIndex_8c36e_9 : decode cJ3_checkFromToIndex_8c36e 9 = .ok (.iload_n 1, 1) := by decide +kernel
theorem dJ3_checkFromToIndex_8c36e_10 : decode cJ3_checkFromToIndex_8c36e 10 = .ok (.iload_n 2, 1) := by decide +kernel
theorem dJ3_checkFromToIndex_8c36e_11 : decode cJ3_checkFromToIndex_8c36e 11 = .ok (.if_icmp .le 11, 3) := by decide +kernel
theorem dJ3_checkFromToIndex_8c36e_14 : decode cJ3_checkFromToIndex_8c36e 14 = .ok (.aload_n 3, 1) := by decide +kernel
theorem dJ3_checkFromToIndex_8c36e_15 : decode cJ3_checkFromToIndex_8c36e 15 = .ok (.iload_n 0, 1) := by decide +kernel
theorem dJ3_checkFromToIndex_8c36e_16 : decode cJ3_checkFromToIndex_8c36e 16 = .ok (.iload_n 1, 1) := by decide +kernel
theorem dJ3_checkFromToIndex_8c36e_17 : decode cJ3_checkFromToIndex_8c36e 17 = .ok (.iload_n 2, 1) := by decide +kernel
theorem dJ3_checkFromToIndex_8c36e_22 : decode cJ3_checkFromToIndex_8c36e 22 = .ok (.iload_n 0, 1) := by decide +kernel
theorem dJ3_checkFromToIndex_8c36e_23 : decode cJ3_checkFromToIndex_8c36e 23 = .ok (.ireturn, 1) := by decide +kernel
theorem dJ3_checkIndex_8e157_0 : decode cJ3_checkIndex_8e157 0 = .ok (.iload_n 0, 1) := by decide +kernel
theorem dJ3_checkIndex_8e157_1 : decode cJ3_checkIndex_8e157 1 = .ok (.ifCond .lt 8, 3) := by decide +kernel
theorem dJ3_checkIndex_8e157_4 : decode cJ3_checkIndex_8e157 4 = .ok (.iload_n 0, 1) := by decide +kernel
theorem dJ3_checkIndex_8e157_5 : decode cJ3_checkIndex_8e157 5 = .ok (.iload_n 1, 1) := by decide +kernel
theorem dJ3_checkIndex_8e157_6 : decode cJ3_checkIndex_8e157 6 = .ok (.if_icmp .lt 10, 3) := by decide +kernel
theorem dJ3_checkIndex_8e157_9 : decode cJ3_checkIndex_8e157 9 = .ok (.aload_n 2, 1) := by decide +kernel
theorem dJ3_checkIndex_8e157_10 : decode cJ3_checkIndex_8e157 10 = .ok (.iload_n 0, 1) := by decide +kernel
theorem dJ3_checkIndex_8e157_11 : decode cJ3_checkIndex_8e157 11 = .ok (.iload_n 1, 1) := by decide +kernel
theorem dJ3_checkIndex_8e157_16 : decode cJ3_checkIndex_8e157 16 = .ok (.iload_n 0, 1) := by decide +kernel
theorem dJ3_checkIndex_8e157_17 : decode cJ3_checkIndex_8e157 17 = .ok (.ireturn, 1) := by decide +kernel
theorem dJ6_bitCount_0f7a4_0 : decode cJ6_bitCount_0f7a4 0 = .ok (.iload_n 0, 1) := by decide +kernel
theorem dJ6_bitCount_0f7a4_1 : decode cJ6_bitCount_0f7a4 1 = .ok (.iload_n 0, 1) := by decide +kernel
theorem dJ6_bitCount_0f7a4_2 : decode cJ6_bitCount_0f7a4 2 = .ok (.iconst 1, 1) := by decide +kernel
theorem dJ6_bitCount_0f7a4_3 : decode cJ6_bitCount_0f7a4 3 = .ok (.iushr, 1) := by decide +kernel
theorem dJ6_bitCount_0f7a4_4 : decode cJ6_bitCount_0f7a4 4 = .ok (.ldc_w 265, 3) := by decide +kernel
theorem dJ6_bitCount_0f7a4_7 : decode cJ6_bitCount_0f7a4 7 = .ok (.iand, 1) := by decide +kernel
theorem dJ6_bitCount_0f7a4_8 : decode cJ6_bitCount_0f7a4 8 = .ok (.isub, 1) := by decide +kernel
theorem dJ6_bitCount_0f7a4_9 : decode cJ6_bitCount_0f7a4 9 = .ok (.istore_n 0, 1) := by decide +kernel
theorem dJ6_bitCount_0f7a4_10 : decode cJ6_bitCount_0f7a4 10 = .ok (.iload_n 0, 1) := by decide +kernel
theorem dJ6_bitCount_0f7a4_11 : decode cJ6_bitCount_0f7a4 11 = .ok (.ldc_w 266, 3) := by decide +kernel
theorem dJ6_bitCount_0f7a4_14 : decode cJ6_bitCount_0f7a4 14 = .ok (.iand, 1) := by decide +kernel
theorem dJ6_bitCount_0f7a4_15 : decode cJ6_bitCount_0f7a4 15 = .ok (.iload_n 0, 1) := by decide +kernel
theorem dJ6_bitCount_0f7a4_16 : decode cJ6_bitCount_0f7a4 16 = .ok (.iconst 2, 1) := by decide +kernel
theorem dJ6_bitCount_0f7a4_17 : decode cJ6_bitCount_0f7a4 17 = .ok (.iushr, 1) := by decide +kernel
theorem dJ6_bitCount_0f7a4_18 : decode cJ6_bitCount_0f7a4 18 = .ok (.ldc_w 266, 3) := by decide +kernel
theorem dJ6_bitCount_0f7a4_21 : decode cJ6_bitCount_0f7a4 21 = .ok (.iand, 1) := by decide +kernel
theorem dJ6_bitCount_0f7a4_22 : decode cJ6_bitCount_0f7a4 22 = .ok (.iadd, 1) := by decide +kernel
theorem dJ6_bitCount_0f7a4_23 : decode cJ6_bitCount_0f7a4 23 = .ok (.istore_n 0, 1) := by decide +kernel
theorem dJ6_bitCount_0f7a4_24 : decode cJ6_bitCount_0f7a4 24 = .ok (.iload_n 0, 1) := by decide +kernel
theorem dJ6_bitCount_0f7a4_25 : decode cJ6_bitCount_0f7a4 25 = .ok (.iload_n 0, 1) := by decide +kernel
theorem dJ6_bitCount_0f7a4_26 : decode cJ6_bitCount_0f7a4 26 = .ok (.iconst 4, 1) := by decide +kernel
theorem dJ6_bitCount_0f7a4_27 : decode cJ6_bitCount_0f7a4 27 = .ok (.iushr, 1) := by decide +kernel
theorem dJ6_bitCount_0f7a4_28 : decode cJ6_bitCount_0f7a4 28 = .ok (.iadd, 1) := by decide +kernel
theorem dJ6_bitCount_0f7a4_29 : decode cJ6_bitCount_0f7a4 29 = .ok (.ldc_w 267, 3) := by decide +kernel
theorem dJ6_bitCount_0f7a4_32 : decode cJ6_bitCount_0f7a4 32 = .ok (.iand, 1) := by decide +kernel
theorem dJ6_bitCount_0f7a4_33 : decode cJ6_bitCount_0f7a4 33 = .ok (.istore_n 0, 1) := by decide +kernel
theorem dJ6_bitCount_0f7a4_34 : decode cJ6_bitCount_0f7a4 34 = .ok (.iload_n 0, 1) := by decide +kernel
theorem dJ6_bitCount_0f7a4_35 : decode cJ6_bitCount_0f7a4 35 = .ok (.iload_n 0, 1) := by decide +kernel
theorem dJ6_bitCount_0f7a4_36 : decode cJ6_bitCount_0f7a4 36 = .ok (.bipush 8, 2) := by decide +kernel
theorem dJ6_bitCount_0f7a4_38 : decode cJ6_bitCount_0f7a4 38 = .ok (.iushr, 1) := by decide +kernel
theorem dJ6_bitCount_0f7a4_39 : decode cJ6_bitCount_0f7a4 39 = .ok (.iadd, 1) := by decide +kernel
theorem dJ6_bitCount_0f7a4_40 : decode cJ6_bitCount_0f7a4 40 = .ok (.istore_n 0, 1) := by decide +kernel
theorem dJ6_bitCount_0f7a4_41 : decode cJ6_bitCount_0f7a4 41 = .ok (.iload_n 0, 1) := by decide +kernel
theorem dJ6_bitCount_0f7a4_42 : decode cJ6_bitCount_0f7a4 42 = .ok (.iload_n 0, 1) := by decide +kernel
theorem dJ6_bitCount_0f7a4_43 : decode cJ6_bitCount_0f7a4 43 = .ok (.bipush 16, 2) := by decide +kernel
theorem dJ6_bitCount_0f7a4_45 : decode cJ6_bitCount_0f7a4 45 = .ok (.iushr, 1) := by decide +kernel
theorem dJ6_bitCount_0f7a4_46 : decode cJ6_bitCount_0f7a4 46 = .ok (.iadd, 1) := by decide +kernel
theorem dJ6_bitCount_0f7a4_47 : decode cJ6_bitCount_0f7a4 47 = .ok (.istore_n 0, 1) := by decide +kernel
theorem dJ6_bitCount_0f7a4_48 : decode cJ6_bitCount_0f7a4 48 = .ok (.iload_n 0, 1) := by decide +kernel
theorem dJ6_bitCount_0f7a4_49 : decode cJ6_bitCount_0f7a4 49 = .ok (.bipush 63, 2) := by decide +kernel
theorem dJ6_bitCount_0f7a4_51 : decode cJ6_bitCount_0f7a4 51 = .ok (.iand, 1) := by decide +kernel
theorem dJ6_bitCount_0f7a4_52 : decode cJ6_bitCount_0f7a4 52 = .ok (.ireturn, 1) := by decide +kernel
theorem dJ6_numberOfTrailingZeros_0f7a4_0 : decode cJ6_numberOfTrailingZeros_0f7a4 0 = .ok (.iload_n 0, 1) := by decide +kernel
theorem dJ6_numberOfTrailingZeros_0f7a4_1 : decode cJ6_numberOfTrailingZeros_0f7a4 1 = .ok (.iconst (-1), 1) := by decide +kernel
theorem dJ6_numberOfTrailingZeros_0f7a4_2 : decode cJ6_numberOfTrailingZeros_0f7a4 2 = .ok (.ixor, 1) := by decide +kernel
theorem dJ6_numberOfTrailingZeros_0f7a4_3 : decode cJ6_numberOfTrailingZeros_0f7a4 3 = .ok (.iload_n 0, 1) := by decide +kernel
theorem dJ6_numberOfTrailingZeros_0f7a4_4 : decode cJ6_numberOfTrailingZeros_0f7a4 4 = .ok (.iconst 1, 1) := by decide +kernel
theorem dJ6_numberOfTrailingZeros_0f7a4_5 : decode cJ6_numberOfTrailingZeros_0f7a4 5 = .ok (.isub, 1) := by decide +kernel
theorem dJ6_numberOfTrailingZeros_0f7a4_6 : decode cJ6_numberOfTrailingZeros_0f7a4 6 = .ok (.iand, 1) := by decide +kernel
theorem dJ6_numberOfTrailingZeros_0f7a4_7 : decode cJ6_numberOfTrailingZeros_0f7a4 7 = .ok (.istore_n 0, 1) := by decide +kernel
theorem dJ6_numberOfTrailingZeros_0f7a4_8 : decode cJ6_numberOfTrailingZeros_0f7a4 8 = .ok (.iload_n 0, 1) := by decide +kernel
theorem dJ6_numberOfTrailingZeros_0f7a4_9 : decode cJ6_numberOfTrailingZeros_0f7a4 9 = .ok (.ifCond .gt 8, 3) := by decide +kernel
theorem dJ6_numberOfTrailingZeros_0f7a4_12 : decode cJ6_numberOfTrailingZeros_0f7a4 12 = .ok (.iload_n 0, 1) := by decide +kernel
theorem dJ6_numberOfTrailingZeros_0f7a4_13 : decode cJ6_numberOfTrailingZeros_0f7a4 13 = .ok (.bipush 32, 2) := by decide +kernel
theorem dJ6_numberOfTrailingZeros_0f7a4_15 : decode cJ6_numberOfTrailingZeros_0f7a4 15 = .ok (.iand, 1) := by decide +kernel
theorem dJ6_numberOfTrailingZeros_0f7a4_16 : decode cJ6_numberOfTrailingZeros_0f7a4 16 = .ok (.ireturn, 1) := by decide +kernel
theorem dJ6_numberOfTrailingZeros_0f7a4_17 : decode cJ6_numberOfTrailingZeros_0f7a4 17 = .ok (.iconst 1, 1) := by decide +kernel
theorem dJ6_numberOfTrailingZeros_0f7a4_18 : decode cJ6_numberOfTrailingZeros_0f7a4 18 = .ok (.istore_n 1, 1) := by decide +kernel
theorem dJ6_numberOfTrailingZeros_0f7a4_19 : decode cJ6_numberOfTrailingZeros_0f7a4 19 = .ok (.iload_n 0, 1) := by decide +kernel
theorem dJ6_numberOfTrailingZeros_0f7a4_20 : decode cJ6_numberOfTrailingZeros_0f7a4 20 = .ok (.ldc_w 264, 3) := by decide +kernel
theorem dJ6_numberOfTrailingZeros_0f7a4_23 : decode cJ6_numberOfTrailingZeros_0f7a4 23 = .ok (.if_icmp .le 11, 3) := by decide +kernel
theorem dJ6_numberOfTrailingZeros_0f7a4_26 : decode cJ6_numberOfTrailingZeros_0f7a4 26 = .ok (.iinc 1 16, 3) := by decide +kernel
theorem dJ6_numberOfTrailingZeros_0f7a4_29 : decode cJ6_numberOfTrailingZeros_0f7a4 29 = .ok (.iload_n 0, 1) := by decide +kernel
theorem dJ6_numberOfTrailingZeros_0f7a4_30 : decode cJ6_numberOfTrailingZeros_0f7a4 30 = .ok (.bipush 16, 2) := by decide +kernel
theorem dJ6_numberOfTrailingZeros_0f7a4_32 : decode cJ6_numberOfTrailingZeros_0f7a4 32 = .ok (.iushr, 1) := by decide +kernel
theorem dJ6_numberOfTrailingZeros_0f7a4_33 : decode cJ6_numberOfTrailingZeros_0f7a4 33 = .ok (.istore_n 0, 1) := by decide +kernel
theorem dJ6_numberOfTrailingZeros_0f7a4_34 : decode cJ6_numberOfTrailingZeros_0f7a4 34 = .ok (.iload_n 0, 1) := by decide +kernel
theorem dJ6_numberOfTrailingZeros_0f7a4_35 : decode cJ6_numberOfTrailingZeros_0f7a4 35 = .ok (.sipush 256, 3) := by decide +kernel
theorem dJ6_numberOfTrailingZeros_0f7a4_38 : decode cJ6_numberOfTrailingZeros_0f7a4 38 = .ok (.if_icmp .le 11, 3) := by decide +kernel
theorem dJ6_numberOfTrailingZeros_0f7a4_41 : decode cJ6_numberOfTrailingZeros_0f7a4 41 = .ok (.iinc 1 8, 3) := by decide +kernel
theorem dJ6_numberOfTrailingZeros_0f7a4_44 : decode cJ6_numberOfTrailingZeros_0f7a4 44 = .ok (.iload_n 0, 1) := by decide +kernel
theorem dJ6_numberOfTrailingZeros_0f7a4_45 : decode cJ6_numberOfTrailingZeros_0f7a4 45 = .ok (.bipush 8, 2) := by decide +kernel
theorem dJ6_numberOfTrailingZeros_0f7a4_47 : decode cJ6_numberOfTrailingZeros_0f7a4 47 = .ok (.iushr, 1) := by decide +kernel
theorem dJ6_numberOfTrailingZeros_0f7a4_48 : decode cJ6_numberOfTrailingZeros_0f7a4 48 = .ok (.istore_n 0, 1) := by decide +kernel
theorem dJ6_numberOfTrailingZeros_0f7a4_49 : decode cJ6_numberOfTrailingZeros_0f7a4 49 = .ok (.iload_n 0, 1) := by decide +kernel
theorem dJ6_numberOfTrailingZeros_0f7a4_50 : decode cJ6_numberOfTrailingZeros_0f7a4 50 = .ok (.bipush 16, 2) := by decide +kernel
theorem dJ6_numberOfTrailingZeros_0f7a4_52 : decode cJ6_numberOfTrailingZeros_0f7a4 52 = .ok (.if_icmp .le 10, 3) := by decide +kernel
theorem dJ6_numberOfTrailingZeros_0f7a4_55 : decode cJ6_numberOfTrailingZeros_0f7a4 55 = .ok (.iinc 1 4, 3) := by decide +kernel
theorem dJ6_numberOfTrailingZeros_0f7a4_58 : decode cJ6_numberOfTrailingZeros_0f7a4 58 = .ok (.iload_n 0, 1) := by decide +kernel
theorem dJ6_numberOfTrailingZeros_0f7a4_59 : decode cJ6_numberOfTrailingZeros_0f7a4 59 = .ok (.iconst 4, 1) := by decide +kernel
theorem dJ6_numberOfTrailingZeros_0f7a4_60 : decode cJ6_numberOfTrailingZeros_0f7a4 60 = .ok (.iushr, 1) := by decide +kernel
theorem dJ6_numberOfTrailingZeros_0f7a4_61 : decode cJ6_numberOfTrailingZeros_0f7a4 61 = .ok (.istore_n 0, 1) := by decide +kernel
theorem dJ6_numberOfTrailingZeros_0f7a4_62 : decode cJ6_numberOfTrailingZeros_0f7a4 62 = .ok (.iload_n 0, 1) := by decide +kernel
theorem dJ6_numberOfTrailingZeros_0f7a4_63 : decode cJ6_numberOfTrailingZeros_0f7a4 63 = .ok (.iconst 4, 1) := by decide +kernel
theorem dJ6_numberOfTrailingZeros_0f7a4_64 : decode cJ6_numberOfTrailingZeros_0f7a4 64 = .ok (.if_icmp .le 10, 3) := by decide +kernel
theorem dJ6_numberOfTrailingZeros_0f7a4_67 : decode cJ6_numberOfTrailingZeros_0f7a4 67 = .ok (.iinc 1 2, 3) := by decide +kernel
theorem dJ6_numberOfTrailingZeros_0f7a4_70 : decode cJ6_numberOfTrailingZeros_0f7a4 70 = .ok (.iload_n 0, 1) := by decide +kernel
theorem dJ6_numberOfTrailingZeros_0f7a4_71 : decode cJ6_numberOfTrailingZeros_0f7a4 71 = .ok (.iconst 2, 1) := by decide +kernel
theorem dJ6_numberOfTrailingZeros_0f7a4_72 : decode cJ6_numberOfTrailingZeros_0f7a4 72 = .ok (.iushr, 1) := by decide +kernel
theorem dJ6_numberOfTrailingZeros_0f7a4_73 : decode cJ6_numberOfTrailingZeros_0f7a4 73 = .ok (.istore_n 0, 1) := by decide +kernel
theorem dJ6_numberOfTrailingZeros_0f7a4_74 : decode cJ6_numberOfTrailingZeros_0f7a4 74 = .ok (.iload_n 1, 1) := by decide +kernel
theorem dJ6_numberOfTrailingZeros_0f7a4_75 : decode cJ6_numberOfTrailingZeros_0f7a4 75 = .ok (.iload_n 0, 1) := by decide +kernel
theorem dJ6_numberOfTrailingZeros_0f7a4_76 : decode cJ6_numberOfTrailingZeros_0f7a4 76 = .ok (.iconst 1, 1) := by decide +kernel
theorem dJ6_numberOfTrailingZeros_0f7a4_77 : decode cJ6_numberOfTrailingZeros_0f7a4 77 = .ok (.iushr, 1) := by decide +kernel
theorem dJ6_numberOfTrailingZeros_0f7a4_78 : decode cJ6_numberOfTrailingZeros_0f7a4 78 = .ok (.iadd, 1) := by decide +kernel
theorem dJ6_numberOfTrailingZeros_0f7a4_79 : decode cJ6_numberOfTrailingZeros_0f7a4 79 = .ok (.ireturn, 1) := by decide +kernel
theorem dJ7_fill_53178_0 : decode cJ7_fill_53178 0 = .ok (.iconst 0, 1) := by decide +kernel
theorem dJ7_fill_53178_1 : decode cJ7_fill_53178 1 = .ok (.istore_n 2, 1) := by decide +kernel
theorem dJ7_fill_53178_2 : decode cJ7_fill_53178 2 = .ok (.aload_n 0, 1) := by decide +kernel
theorem dJ7_fill_53178_3 : decode cJ7_fill_53178 3 = .ok (.arraylength, 1) := by decide +kernel
theorem dJ7_fill_53178_4 : decode cJ7_fill_53178 4 = .ok (.istore_n 3, 1) := by decide +kernel
theorem dJ7_fill_53178_5 : decode cJ7_fill_53178 5 = .ok (.iload_n 2, 1) := by decide +kernel
theorem dJ7_fill_53178_6 : decode cJ7_fill_53178 6 = .ok (.iload_n 3, 1) := by decide +kernel
theorem dJ7_fill_53178_7 : decode cJ7_fill_53178 7 = .ok (.if_icmp .ge 13, 3) := by decide +kernel
theorem dJ7_fill_53178_10 : decode cJ7_fill_53178 10 = .ok (.aload_n 0, 1) := by decide +kernel
theorem dJ7_fill_53178_11 : decode cJ7_fill_53178 11 = .ok (.iload_n 2, 1) := by decide +kernel
theorem dJ7_fill_53178_12 : decode cJ7_fill_53178 12 = .ok (.iload_n 1, 1) := by decide +kernel
theorem dJ7_fill_53178_13 : decode cJ7_fill_53178 13 = .ok (.iastore, 1) := by decide +kernel
theorem dJ7_fill_53178_14 : decode cJ7_fill_53178 14 = .ok (.iinc 2 1, 3) := by decide +kernel
theorem dJ7_fill_53178_17 : decode cJ7_fill_53178 17 = .ok (.goto (-12), 3) := by decide +kernel
theorem dJ7_fill_53178_20 : decode cJ7_fill_53178 20 = .ok (.return_, 1) := by decide +kernel
theorem dJ7_fill_d0a16_0 : decode cJ7_fill_d0a16 0 = .ok (.iconst 0, 1) := by decide +kernel
theorem dJ7_fill_d0a16_1 : decode cJ7_fill_d0a16 1 = .ok (.istore_n 3, 1) := by decide +kernel
theorem dJ7_fill_d0a16_2 : decode cJ7_fill_d0a16 2 = .ok (.aload_n 0, 1) := by decide +kernel
theorem dJ7_fill_d0a16_3 : decode cJ7_fill_d0a16 3 = .ok (.arraylength, 1) := by decide +kernel
theorem dJ7_fill_d0a16_4 : decode cJ7_fill_d0a16 4 = .ok (.istore 4, 2) := by decide +kernel
theorem dJ7_fill_d0a16_6 : decode cJ7_fill_d0a16 6 = .ok (.iload_n 3, 1) := by decide +kernel
theorem dJ7_fill_d0a16_7 : decode cJ7_fill_d0a16 7 = .ok (.iload 4, 2) := by decide +kernel
theorem dJ7_fill_d0a16_9 : decode cJ7_fill_d0a16 9 = .ok (.if_icmp .ge 13, 3) := by decide +kernel
theorem dJ7_fill_d0a16_12 : decode cJ7_fill_d0a16 12 = .ok (.aload_n 0, 1) := by decide +kernel
theorem dJ7_fill_d0a16_13 : decode cJ7_fill_d0a16 13 = .ok (.iload_n 3, 1) := by decide +kernel
theorem dJ7_fill_d0a16_14 : decode cJ7_fill_d0a16 14 = .ok (.lload_n 1, 1) := by decide +kernel
theorem dJ7_fill_d0a16_15 : decode cJ7_fill_d0a16 15 = .ok (.lastore, 1) := by decide +kernel
theorem dJ7_fill_d0a16_16 : decode cJ7_fill_d0a16 16 = .ok (.iinc 3 1, 3) := by decide +kernel
theorem dJ7_fill_d0a16_19 : decode cJ7_fill_d0a16 19 = .ok (.goto (-13), 3) := by decide +kernel
theorem dJ7_fill_d0a16_22 : decode cJ7_fill_d0a16 22 = .ok (.return_, 1) := by decide +kernel
theorem dX0_areTwo_0 : decode cX0_areTwo 0 = .ok (.aload_n 0, 1) := by decide +kernel
theorem dX0_areTwo_1 : decode cX0_areTwo 1 = .ok (.iload_n 1, 1) := by decide +kernel
theorem dX0_areTwo_2 : decode cX0_areTwo 2 = .ok (.invokevirtual 47, 3) := by decide +kernel
theorem dX0_areTwo_5 : decode cX0_areTwo 5 = .ok (.ifCond .eq 20, 3) := by decide +kernel
theorem dX0_areTwo_25 : decode cX0_areTwo 25 = .ok (.iconst 0, 1) := by decide +kernel
theorem dX0_areTwo_26 : decode cX0_areTwo 26 = .ok (.ireturn, 1) := by decide +kernel
theorem dX0_has_0 : decode cX0_has 0 = .ok (.iload_n 1, 1) := by decide +kernel
theorem dX0_has_1 : decode cX0_has 1 = .ok (.ifCond .lt 15, 3) := by decide +kernel
theorem dX0_has_4 : decode cX0_has 4 = .ok (.iload_n 1, 1) := by decide +kernel
theorem dX0_has_5 : decode cX0_has 5 = .ok (.aload_n 0, 1) := by decide +kernel
theorem dX0_has_6 : decode cX0_has 6 = .ok (.getfield 44, 3) := by decide +kernel
theorem dX0_has_9 : decode cX0_has 9 = .ok (.if_icmp .ge 7, 3) := by decide +kernel
theorem dX0_has_16 : decode cX0_has 16 = .ok (.iconst 0, 1) := by decide +kernel
theorem dX0_has_17 : decode cX0_has 17 = .ok (.ireturn, 1) := by decide +kernel
theorem dX0_init_0 : decode cX0_init 0 = .ok (.aload_n 0, 1) := by decide +kernel
theorem dX0_init_1 : decode cX0_init 1 = .ok (.invokespecial 3, 3) := by decide +kernel
theorem dX0_init_4 : decode cX0_init 4 = .ok (.aload_n 0, 1) := by decide +kernel
theorem dX0_init_5 : decode cX0_init 5 = .ok (.bipush 8, 2) := by decide +kernel
theorem dX0_init_7 : decode cX0_init 7 = .ok (.newarray .int, 2) := by decide +kernel
theorem dX0_init_9 : decode cX0_init 9 = .ok (.putfield 9, 3) := by decide +kernel
theorem dX0_init_12 : decode cX0_init 12 = .ok (.aload_n 0, 1) := by decide +kernel
theorem dX0_init_13 : decode cX0_init 13 = .ok (.bipush 8, 2) := by decide +kernel
theorem dX0_init_15 : decode cX0_init 15 = .ok (.newarray .int, 2) := by decide +kernel
theorem dX0_init_17 : decode cX0_init 17 = .ok (.putfield 15, 3) := by decide +kernel
theorem dX0_init_20 : decode cX0_init 20 = .ok (.aload_n 0, 1) := by decide +kernel
theorem dX0_init_21 : decode cX0_init 21 = .ok (.bipush 8, 2) := by decide +kernel
theorem dX0_init_23 : decode cX0_init 23 = .ok (.newarray .int, 2) := by decide +kernel
theorem dX0_init_25 : decode cX0_init 25 = .ok (.putfield 18, 3) := by decide +kernel
theorem dX0_init_28 : decode cX0_init 28 = .ok (.aload_n 0, 1) := by decide +kernel
theorem dX0_init_29 : decode cX0_init 29 = .ok (.bipush 7, 2) := by decide +kernel
theorem dX0_init_31 : decode cX0_init 31 = .ok (.newarray .int, 2) := by decide +kernel
theorem dX0_init_33 : decode cX0_init 33 = .ok (.putfield 21, 3) := by decide +kernel
theorem dX0_init_36 : decode cX0_init 36 = .ok (.aload_n 0, 1) := by decide +kernel
theorem dX0_init_37 : decode cX0_init 37 = .ok (.bipush 8, 2) := by decide +kernel
theorem dX0_init_39 : decode cX0_init 39 = .ok (.newarray .int, 2) := by decide +kernel
theorem dX0_init_41 : decode cX0_init 41 = .ok (.putfield 24, 3) := by decide +kernel
theorem dX0_init_44 : decode cX0_init 44 = .ok (.aload_n 0, 1) := by decide +kernel
theorem dX0_init_45 : decode cX0_init 45 = .ok (.bipush 8, 2) := by decide +kernel
theorem dX0_init_47 : decode cX0_init 47 = .ok (.newarray .int, 2) := by decide +kernel
theorem dX0_init_49 : decode cX0_init 49 = .ok (.putfield 27, 3) := by decide +kernel
theorem dX0_init_52 : decode cX0_init 52 = .ok (.aload_n 0, 1) := by decide +kernel
theorem dX0_init_53 : decode cX0_init 53 = .ok (.bipush 8, 2) := by decide +kernel
theorem dX0_init_55 : decode cX0_init 55 = .ok (.putfield 30, 3) := by decide +kernel
theorem dX0_init_58 : decode cX0_init 58 = .ok (.aload_n 0, 1) := by decide +kernel
theorem dX0_init_59 : decode cX0_init 59 = .ok (.iconst 4, 1) := by decide +kernel
theorem dX0_init_60 : decode cX0_init 60 = .ok (.putfield 34, 3) := by decide +kernel
theorem dX0_init_63 : decode cX0_init 63 = .ok (.aload_n 0, 1) := by decide +kernel
theorem dX0_init_64 : decode cX0_init 64 = .ok (.new 37, 3) := by decide +kernel
theorem dX0_init_67 : decode cX0_init 67 = .ok (.dup, 1) := by decide +kernel
theorem dX0_init_68 : decode cX0_init 68 = .ok (.invokespecial 39, 3) := by decide +kernel
theorem dX0_init_71 : decode cX0_init 71 = .ok (.putfield 40, 3) := by decide +kernel
theorem dX0_init_74 : decode cX0_init 74 = .ok (.return_, 1) := by decide +kernel
theorem dX0_isAble_0 : decode cX0_isAble 0 = .ok (.aload_n 0, 1) := by decide +kernel
theorem dX0_isAble_1 : decode cX0_isAble 1 = .ok (.iload_n 2, 1) := by decide +kernel
theorem dX0_isAble_2 : decode cX0_isAble 2 = .ok (.invokevirtual 47, 3) := by decide +kernel
theorem dX0_isAble_5 : decode cX0_isAble 5 = .ok (.ifCond .eq 29, 3) := by decide +kernel
theorem dX0_isAble_34 : decode cX0_isAble 34 = .ok (.iconst 0, 1) := by decide +kernel
theorem dX0_isAble_35 : decode cX0_isAble 35 = .ok (.ireturn, 1) := by decide +kernel
theorem dX0_isSomebodyOrNobody_0 : decode cX0_isSomebodyOrNobody 0 = .ok (.iload_n 1, 1) := by decide +kernel
theorem dX0_isSomebodyOrNobody_1 : decode cX0_isSomebodyOrNobody 1 = .ok (.iconst (-1), 1) := by decide +kernel
theorem dX0_isSomebodyOrNobody_2 : decode cX0_isSomebodyOrNobody 2 = .ok (.if_icmp .eq 11, 3) := by decide +kernel
theorem dX0_isSomebodyOrNobody_5 : decode cX0_isSomebodyOrNobody 5 = .ok (.aload_n 0, 1) := by decide +kernel
theorem dX0_isSomebodyOrNobody_6 : decode cX0_isSomebodyOrNobody 6 = .ok (.iload_n 1, 1) := by decide +kernel
theorem dX0_isSomebodyOrNobody_7 : decode cX0_isSomebodyOrNobody 7 = .ok (.invokevirtual 47, 3) := by decide +kernel
theorem dX0_isSomebodyOrNobody_10 : decode cX0_isSomebodyOrNobody 10 = .ok (.ifCond .eq 7, 3) := by decide +kernel
theorem dX0_isSomebodyOrNobody_13 : decode cX0_isSomebodyOrNobody 13 = .ok (.iconst 1, 1) := by decide +kernel
theorem dX0_isSomebodyOrNobody_14 : decode cX0_isSomebodyOrNobody 14 = .ok (.goto 4, 3) := by decide +kernel
theorem dX0_isSomebodyOrNobody_17 : decode cX0_isSomebodyOrNobody 17 = .ok (.iconst 0, 1) := by decide +kernel
theorem dX0_isSomebodyOrNobody_18 : decode cX0_isSomebodyOrNobody 18 = .ok (.ireturn, 1) := by decide +kernel
theorem dX0_pass_0 : decode cX0_pass 0 = .ok (.aload_n 0, 1) := by decide +kernel
theorem dX0_pass_1 : decode cX0_pass 1 = .ok (.aload_n 1, 1) := by decide +kernel
theorem dX0_pass_2 : decode cX0_pass 2 = .ok (.invokevirtual 131, 3) := by decide +kernel
theorem dX0_pass_5 : decode cX0_pass 5 = .ok (.aload_n 0, 1) := by decide +kernel
theorem dX0_pass_6 : decode cX0_pass 6 = .ok (.getfield 27, 3) := by decide +kernel
theorem dX0_pass_9 : decode cX0_pass 9 = .ok (.iconst 0, 1) := by decide +kernel
theorem dX0_pass_10 : decode cX0_pass 10 = .ok (.invokestatic 111, 3) := by decide +kernel
theorem dX0_pass_13 : decode cX0_pass 13 = .ok (.iconst 0, 1) := by decide +kernel
theorem dX0_pass_14 : decode cX0_pass 14 = .ok (.istore_n 2, 1) := by decide +kernel
theorem dX0_pass_15 : decode cX0_pass 15 = .ok (.iload_n 2, 1) := by decide +kernel
theorem dX0_pass_16 : decode cX0_pass 16 = .ok (.aload_n 0, 1) := by decide +kernel
theorem dX0_pass_17 : decode cX0_pass 17 = .ok (.getfield 30, 3) := by decide +kernel
theorem dX0_pass_20 : decode cX0_pass 20 = .ok (.if_icmp .ge 56, 3) := by decide +kernel
theorem dX0_pass_23 : decode cX0_pass 23 = .ok (.aload_n 1, 1) := by decide +kernel
theorem dX0_pass_24 : decode cX0_pass 24 = .ok (.getfield 117, 3) := by decide +kernel
theorem dX0_pass_27 : decode cX0_pass 27 = .ok (.iload_n 2, 1) := by decide +kernel
theorem dX0_pass_28 : decode cX0_pass 28 = .ok (.iaload, 1) := by decide +kernel
theorem dX0_pass_29 : decode cX0_pass 29 = .ok (.istore_n 3, 1) := by decide +kernel
theorem dX0_pass_30 : decode cX0_pass 30 = .ok (.aload_n 0, 1) := by decide +kernel
theorem dX0_pass_31 : decode cX0_pass 31 = .ok (.getfield 108, 3) := by decide +kernel
theorem dX0_pass_34 : decode cX0_pass 34 = .ok (.iload_n 2, 1) := by decide +kernel
theorem dX0_pass_35 : decode cX0_pass 35 = .ok (.ishr, 1) := by decide +kernel
theorem dX0_pass_36 : decode cX0_pass 36 = .ok (.iconst 1, 1) := by decide +kernel
theorem dX0_pass_37 : decode cX0_pass 37 = .ok (.iand, 1) := by decide +kernel
theorem dX0_pass_38 : decode cX0_pass 38 = .ok (.iconst 1, 1) := by decide +kernel
theorem dX0_pass_39 : decode cX0_pass 39 = .ok (.if_icmp .ne 31, 3) := by decide +kernel
theorem dX0_pass_70 : decode cX0_pass 70 = .ok (.iinc 2 1, 3) := by decide +kernel
theorem dX0_pass_73 : decode cX0_pass 73 = .ok (.goto (-58), 3) := by decide +kernel
theorem dX0_pass_76 : decode cX0_pass 76 = .ok (.iconst 0, 1) := by decide +kernel
theorem dX0_pass_77 : decode cX0_pass 77 = .ok (.istore_n 2, 1) := by decide +kernel
theorem dX0_pass_78 : decode cX0_pass 78 = .ok (.iload_n 2, 1) := by decide +kernel
theorem dX0_pass_79 : decode cX0_pass 79 = .ok (.aload_n 0, 1) := by decide +kernel
theorem dX0_pass_80 : decode cX0_pass 80 = .ok (.getfield 44, 3) := by decide +kernel
theorem dX0_pass_83 : decode cX0_pass 83 = .ok (.if_icmp .ge 56, 3) := by decide +kernel
theorem dX0_pass_139 : decode cX0_pass 139 = .ok (.aload_n 1, 1) := by decide +kernel
theorem dX0_pass_140 : decode cX0_pass 140 = .ok (.dup, 1) := by decide +kernel
theorem dX0_pass_141 : decode cX0_pass 141 = .ok (.getfield 139, 3) := by decide +kernel
theorem dX0_pass_144 : decode cX0_pass 144 = .ok (.aload_n 0, 1) := by decide +kernel
theorem dX0_pass_145 : decode cX0_pass 145 = .ok (.getfield 105, 3) := by decide +kernel
theorem dX0_pass_148 : decode cX0_pass 148 = .ok (.invokestatic 90, 3) := by decide +kernel
theorem dX0_pass_151 : decode cX0_pass 151 = .ok (.iadd, 1) := by decide +kernel
theorem dX0_pass_152 : decode cX0_pass 152 = .ok (.putfield 139, 3) := by decide +kernel
theorem dX0_pass_155 : decode cX0_pass 155 = .ok (.aload_n 1, 1) := by decide +kernel
theorem dX0_pass_156 : decode cX0_pass 156 = .ok (.dup, 1) := by decide +kernel
theorem dX0_pass_157 : decode cX0_pass 157 = .ok (.getfield 142, 3) := by decide +kernel
theorem dX0_pass_160 : decode cX0_pass 160 = .ok (.aload_n 0, 1) := by decide +kernel
theorem dX0_pass_161 : decode cX0_pass 161 = .ok (.getfield 108, 3) := by decide +kernel
theorem dX0_pass_164 : decode cX0_pass 164 = .ok (.invokestatic 90, 3) := by decide +kernel
theorem dX0_pass_167 : decode cX0_pass 167 = .ok (.iadd, 1) := by decide +kernel
theorem dX0_pass_168 : decode cX0_pass 168 = .ok (.putfield 142, 3) := by decide +kernel
theorem dX0_pass_171 : decode cX0_pass 171 = .ok (.aload_n 1, 1) := by decide +kernel
theorem dX0_pass_172 : decode cX0_pass 172 = .ok (.dup, 1) := by decide +kernel
theorem dX0_pass_173 : decode cX0_pass 173 = .ok (.getfield 87, 3) := by decide +kernel
theorem dX0_pass_176 : decode cX0_pass 176 = .ok (.iconst 1, 1) := by decide +kernel
theorem dX0_pass_177 : decode cX0_pass 177 = .ok (.iadd, 1) := by decide +kernel
theorem dX0_pass_178 : decode cX0_pass 178 = .ok (.putfield 87, 3) := by decide +kernel
theorem dX0_pass_181 : decode cX0_pass 181 = .ok (.return_, 1) := by decide +kernel
theorem dX0_passAll_0 : decode cX0_passAll 0 = .ok (.iconst 0, 1) := by decide +kernel
theorem dX0_passAll_1 : decode cX0_passAll 1 = .ok (.istore_n 3, 1) := by decide +kernel
theorem dX0_passAll_2 : decode cX0_passAll 2 = .ok (.iload_n 3, 1) := by decide +kernel
theorem dX0_passAll_3 : decode cX0_passAll 3 = .ok (.iload_n 2, 1) := by decide +kernel
theorem dX0_passAll_4 : decode cX0_passAll 4 = .ok (.if_icmp .ge 14, 3) := by decide +kernel
theorem dX0_passAll_7 : decode cX0_passAll 7 = .ok (.aload_n 0, 1) := by decide +kernel
theorem dX0_passAll_8 : decode cX0_passAll 8 = .ok (.aload_n 1, 1) := by decide +kernel
theorem dX0_passAll_9 : decode cX0_passAll 9 = .ok (.invokevirtual 145, 3) := by decide +kernel
theorem dX0_passAll_12 : decode cX0_passAll 12 = .ok (.iinc 3 1, 3) := by decide +kernel
theorem dX0_passAll_15 : decode cX0_passAll 15 = .ok (.goto (-13), 3) := by decide +kernel
theorem dX0_passAll_18 : decode cX0_passAll 18 = .ok (.return_, 1) := by decide +kernel
theorem dX0_readRiders_0 : decode cX0_readRiders 0 = .ok (.aload_n 1, 1) := by decide +kernel
theorem dX0_readRiders_1 : decode cX0_readRiders 1 = .ok (.getfield 57, 3) := by decide +kernel
theorem dX0_readRiders_4 : decode cX0_readRiders 4 = .ok (.ifCond .ne 5, 3) := by decide +kernel
theorem dX0_readRiders_7 : decode cX0_readRiders 7 = .ok (.iconst 0, 1) := by decide +kernel
theorem dX0_readRiders_8 : decode cX0_readRiders 8 = .ok (.ireturn, 1) := by decide +kernel
theorem dX0_watch_0 : decode cX0_watch 0 = .ok (.aload_n 0, 1) := by decide +kernel
theorem dX0_watch_1 : decode cX0_watch 1 = .ok (.iconst 0, 1) := by decide +kernel
theorem dX0_watch_2 : decode cX0_watch 2 = .ok (.putfield 105, 3) := by decide +kernel
theorem dX0_watch_5 : decode cX0_watch 5 = .ok (.aload_n 0, 1) := by decide +kernel
theorem dX0_watch_6 : decode cX0_watch 6 = .ok (.iconst 0, 1) := by decide +kernel
theorem dX0_watch_7 : decode cX0_watch 7 = .ok (.putfield 108, 3) := by decide +kernel
theorem dX0_watch_10 : decode cX0_watch 10 = .ok (.aload_n 0, 1) := by decide +kernel
theorem dX0_watch_11 : decode cX0_watch 11 = .ok (.getfield 24, 3) := by decide +kernel
theorem dX0_watch_14 : decode cX0_watch 14 = .ok (.iconst 0, 1) := by decide +kernel
theorem dX0_watch_15 : decode cX0_watch 15 = .ok (.invokestatic 111, 3) := by decide +kernel
theorem dX0_watch_18 : decode cX0_watch 18 = .ok (.iconst (-1), 1) := by decide +kernel
theorem dX0_watch_19 : decode cX0_watch 19 = .ok (.istore_n 2, 1) := by decide +kernel
theorem dX0_watch_20 : decode cX0_watch 20 = .ok (.iconst 0, 1) := by decide +kernel
theorem dX0_watch_21 : decode cX0_watch 21 = .ok (.istore_n 3, 1) := by decide +kernel
theorem dX0_watch_22 : decode cX0_watch 22 = .ok (.iload_n 3, 1) := by decide +kernel
theorem dX0_watch_23 : decode cX0_watch 23 = .ok (.aload_n 0, 1) := by decide +kernel
theorem dX0_watch_24 : decode cX0_watch 24 = .ok (.getfield 30, 3) := by decide +kernel
theorem dX0_watch_27 : decode cX0_watch 27 = .ok (.if_icmp .ge 124, 3) := by decide +kernel
theorem dX0_watch_30 : decode cX0_watch 30 = .ok (.aload_n 1, 1) := by decide +kernel
theorem dX0_watch_31 : decode cX0_watch 31 = .ok (.getfield 117, 3) := by decide +kernel
theorem dX0_watch_34 : decode cX0_watch 34 = .ok (.iload_n 3, 1) := by decide +kernel
theorem dX0_watch_35 : decode cX0_watch 35 = .ok (.iaload, 1) := by decide +kernel
theorem dX0_watch_36 : decode cX0_watch 36 = .ok (.istore 4, 2) := by decide +kernel
theorem dX0_watch_38 : decode cX0_watch 38 = .ok (.aload_n 0, 1) := by decide +kernel
theorem dX0_watch_39 : decode cX0_watch 39 = .ok (.aload_n 1, 1) := by decide +kernel
theorem dX0_watch_40 : decode cX0_watch 40 = .ok (.iload 4, 2) := by decide +kernel
theorem dX0_watch_42 : decode cX0_watch 42 = .ok (.iload_n 3, 1) := by decide +kernel
theorem dX0_watch_43 : decode cX0_watch 43 = .ok (.invokevirtual 120, 3) := by decide +kernel
theorem dX0_watch_46 : decode cX0_watch 46 = .ok (.ifCond .eq 20, 3) := by decide +kernel
theorem dX0_watch_66 : decode cX0_watch 66 = .ok (.aload_n 0, 1) := by decide +kernel
theorem dX0_watch_67 : decode cX0_watch 67 = .ok (.dup, 1) := by decide +kernel
theorem dX0_watch_68 : decode cX0_watch 68 = .ok (.getfield 105, 3) := by decide +kernel
theorem dX0_watch_71 : decode cX0_watch 71 = .ok (.iconst 1, 1) := by decide +kernel
theorem dX0_watch_72 : decode cX0_watch 72 = .ok (.iload_n 3, 1) := by decide +kernel
theorem dX0_watch_73 : decode cX0_watch 73 = .ok (.ishl, 1) := by decide +kernel
theorem dX0_watch_74 : decode cX0_watch 74 = .ok (.ior, 1) := by decide +kernel
theorem dX0_watch_75 : decode cX0_watch 75 = .ok (.putfield 105, 3) := by decide +kernel
theorem dX0_watch_78 : decode cX0_watch 78 = .ok (.iconst (-1), 1) := by decide +kernel
theorem dX0_watch_79 : decode cX0_watch 79 = .ok (.istore_n 2, 1) := by decide +kernel
theorem dX0_watch_80 : decode cX0_watch 80 = .ok (.goto 65, 3) := by decide +kernel
theorem dX0_watch_145 : decode cX0_watch 145 = .ok (.iinc 3 1, 3) := by decide +kernel
theorem dX0_watch_148 : decode cX0_watch 148 = .ok (.goto (-126), 3) := by decide +kernel
theorem dX0_watch_151 : decode cX0_watch 151 = .ok (.return_, 1) := by decide +kernel
theorem dX1_add_0 : decode cX1_add 0 = .ok (.aload_n 0, 1) := by decide +kernel
theorem dX1_add_1 : decode cX1_add 1 = .ok (.getfield 15, 3) := by decide +kernel
theorem dX1_add_4 : decode cX1_add 4 = .ok (.aload_n 0, 1) := by decide +kernel
theorem dX1_add_5 : decode cX1_add 5 = .ok (.getfield 9, 3) := by decide +kernel
theorem dX1_add_8 : decode cX1_add 8 = .ok (.arraylength, 1) := by decide +kernel
theorem dX1_add_9 : decode cX1_add 9 = .ok (.if_icmp .ge 23, 3) := by decide +kernel
theorem dX1_add_12 : decode cX1_add 12 = .ok (.aload_n 0, 1) := by decide +kernel
theorem dX1_add_13 : decode cX1_add 13 = .ok (.getfield 9, 3) := by decide +kernel
theorem dX1_add_16 : decode cX1_add 16 = .ok (.aload_n 0, 1) := by decide +kernel
theorem dX1_add_17 : decode cX1_add 17 = .ok (.getfield 15, 3) := by decide +kernel
theorem dX1_add_20 : decode cX1_add 20 = .ok (.lload_n 1, 1) := by decide +kernel
theorem dX1_add_21 : decode cX1_add 21 = .ok (.lastore, 1) := by decide +kernel
theorem dX1_add_22 : decode cX1_add 22 = .ok (.aload_n 0, 1) := by decide +kernel
theorem dX1_add_23 : decode cX1_add 23 = .ok (.dup, 1) := by decide +kernel
theorem dX1_add_24 : decode cX1_add 24 = .ok (.getfield 15, 3) := by decide +kernel
theorem dX1_add_27 : decode cX1_add 27 = .ok (.iconst 1, 1) := by decide +kernel
theorem dX1_add_28 : decode cX1_add 28 = .ok (.iadd, 1) := by decide +kernel
theorem dX1_add_29 : decode cX1_add 29 = .ok (.putfield 15, 3) := by decide +kernel
theorem dX1_add_32 : decode cX1_add 32 = .ok (.return_, 1) := by decide +kernel
theorem dX1_clear_0 : decode cX1_clear 0 = .ok (.aload_n 0, 1) := by decide +kernel
theorem dX1_clear_1 : decode cX1_clear 1 = .ok (.iconst 0, 1) := by decide +kernel
theorem dX1_clear_2 : decode cX1_clear 2 = .ok (.putfield 15, 3) := by decide +kernel
theorem dX1_clear_5 : decode cX1_clear 5 = .ok (.return_, 1) := by decide +kernel
theorem dX1_init_0 : decode cX1_init 0 = .ok (.aload_n 0, 1) := by decide +kernel
theorem dX1_init_1 : decode cX1_init 1 = .ok (.invokespecial 3, 3) := by decide +kernel
theorem dX1_init_4 : decode cX1_init 4 = .ok (.aload_n 0, 1) := by decide +kernel
theorem dX1_init_5 : decode cX1_init 5 = .ok (.bipush 8, 2) := by decide +kernel
theorem dX1_init_7 : decode cX1_init 7 = .ok (.newarray .long, 2) := by decide +kernel
theorem dX1_init_9 : decode cX1_init 9 = .ok (.putfield 9, 3) := by decide +kernel
theorem dX1_init_12 : decode cX1_init 12 = .ok (.return_, 1) := by decide +kernel
theorem dX1_tell_0 : decode cX1_tell 0 = .ok (.aload_n 0, 1) := by decide +kernel
theorem dX1_tell_1 : decode cX1_tell 1 = .ok (.invokevirtual 19, 3) := by decide +kernel
theorem dX1_tell_4 : decode cX1_tell 4 = .ok (.aload_n 0, 1) := by decide +kernel
theorem dX1_tell_5 : decode cX1_tell 5 = .ok (.lload_n 1, 1) := by decide +kernel
theorem dX1_tell_6 : decode cX1_tell 6 = .ok (.invokevirtual 22, 3) := by decide +kernel
theorem dX1_tell_9 : decode cX1_tell 9 = .ok (.return_, 1) := by decide +kernel
theorem dX1_tell__0 : decode cX1_tell_ 0 = .ok (.aload_n 0, 1) := by decide +kernel
theorem dX1_tell__1 : decode cX1_tell_ 1 = .ok (.invokevirtual 19, 3) := by decide +kernel
theorem dX1_tell__4 : decode cX1_tell_ 4 = .ok (.aload_n 0, 1) := by decide +kernel
theorem dX1_tell__5 : decode cX1_tell_ 5 = .ok (.lload_n 1, 1) := by decide +kernel
theorem dX1_tell__6 : decode cX1_tell_ 6 = .ok (.invokevirtual 22, 3) := by decide +kernel
theorem dX1_tell__9 : decode cX1_tell_ 9 = .ok (.aload_n 0, 1) := by decide +kernel
theorem dX1_tell__10 : decode cX1_tell_ 10 = .ok (.lload_n 3, 1) := by decide +kernel
theorem dX1_tell__11 : decode cX1_tell_ 11 = .ok (.invokevirtual 22, 3) := by decide +kernel
theorem dX1_tell__14 : decode cX1_tell_ 14 = .ok (.return_, 1) := by decide +kernel
theorem dX2_init_0 : decode cX2_init 0 = .ok (.aload_n 0, 1) := by decide +kernel
theorem dX2_init_1 : decode cX2_init 1 = .ok (.invokespecial 3, 3) := by decide +kernel
theorem dX2_init_4 : decode cX2_init 4 = .ok (.aload_n 0, 1) := by decide +kernel
theorem dX2_init_5 : decode cX2_init 5 = .ok (.bipush 12, 2) := by decide +kernel
theorem dX2_init_7 : decode cX2_init 7 = .ok (.anewarray 11, 3) := by decide +kernel
theorem dX2_init_10 : decode cX2_init 10 = .ok (.putfield 13, 3) := by decide +kernel
theorem dX2_init_13 : decode cX2_init 13 = .ok (.iconst 0, 1) := by decide +kernel
theorem dX2_init_14 : decode cX2_init 14 = .ok (.istore_n 1, 1) := by decide +kernel
theorem dX2_init_15 : decode cX2_init 15 = .ok (.iload_n 1, 1) := by decide +kernel
theorem dX2_init_16 : decode cX2_init 16 = .ok (.bipush 12, 2) := by decide +kernel
theorem dX2_init_18 : decode cX2_init 18 = .ok (.if_icmp .ge 22, 3) := by decide +kernel
theorem dX2_init_21 : decode cX2_init 21 = .ok (.aload_n 0, 1) := by decide +kernel
theorem dX2_init_22 : decode cX2_init 22 = .ok (.getfield 13, 3) := by decide +kernel
theorem dX2_init_25 : decode cX2_init 25 = .ok (.iload_n 1, 1) := by decide +kernel
theorem dX2_init_26 : decode cX2_init 26 = .ok (.new 11, 3) := by decide +kernel
theorem dX2_init_29 : decode cX2_init 29 = .ok (.dup, 1) := by decide +kernel
theorem dX2_init_30 : decode cX2_init 30 = .ok (.invokespecial 17, 3) := by decide +kernel
theorem dX2_init_33 : decode cX2_init 33 = .ok (.aastore, 1) := by decide +kernel
theorem dX2_init_34 : decode cX2_init 34 = .ok (.iinc 1 1, 3) := by decide +kernel
theorem dX2_init_37 : decode cX2_init 37 = .ok (.goto (-22), 3) := by decide +kernel
theorem dX2_init_40 : decode cX2_init 40 = .ok (.return_, 1) := by decide +kernel
theorem dX2_pop_0 : decode cX2_pop 0 = .ok (.aload_n 0, 1) := by decide +kernel
theorem dX2_pop_1 : decode cX2_pop 1 = .ok (.getfield 18, 3) := by decide +kernel
theorem dX2_pop_4 : decode cX2_pop 4 = .ok (.ifCond .ne 5, 3) := by decide +kernel
theorem dX2_pop_7 : decode cX2_pop 7 = .ok (.iconst (-1), 1) := by decide +kernel
theorem dX2_pop_8 : decode cX2_pop 8 = .ok (.ireturn, 1) := by decide +kernel
theorem dX2_push_0 : decode cX2_push 0 = .ok (.aload_n 0, 1) := by decide +kernel
theorem dX2_push_1 : decode cX2_push 1 = .ok (.getfield 13, 3) := by decide +kernel
theorem dX2_push_4 : decode cX2_push 4 = .ok (.aload_n 0, 1) := by decide +kernel
theorem dX2_push_5 : decode cX2_push 5 = .ok (.getfield 22, 3) := by decide +kernel
theorem dX2_push_8 : decode cX2_push 8 = .ok (.aaload, 1) := by decide +kernel
theorem dX2_push_9 : decode cX2_push 9 = .ok (.aload_n 1, 1) := by decide +kernel
theorem dX2_push_10 : decode cX2_push 10 = .ok (.invokevirtual 25, 3) := by decide +kernel
theorem dX2_push_13 : decode cX2_push 13 = .ok (.aload_n 0, 1) := by decide +kernel
theorem dX2_push_14 : decode cX2_push 14 = .ok (.aload_n 0, 1) := by decide +kernel
theorem dX2_push_15 : decode cX2_push 15 = .ok (.getfield 22, 3) := by decide +kernel
theorem dX2_push_18 : decode cX2_push 18 = .ok (.iconst 1, 1) := by decide +kernel
theorem dX2_push_19 : decode cX2_push 19 = .ok (.iadd, 1) := by decide +kernel
theorem dX2_push_20 : decode cX2_push 20 = .ok (.bipush 12, 2) := by decide +kernel
theorem dX2_push_22 : decode cX2_push 22 = .ok (.irem, 1) := by decide +kernel
theorem dX2_push_23 : decode cX2_push 23 = .ok (.putfield 22, 3) := by decide +kernel
theorem dX2_push_26 : decode cX2_push 26 = .ok (.aload_n 0, 1) := by decide +kernel
theorem dX2_push_27 : decode cX2_push 27 = .ok (.aload_n 0, 1) := by decide +kernel
theorem dX2_push_28 : decode cX2_push 28 = .ok (.getfield 18, 3) := by decide +kernel
theorem dX2_push_31 : decode cX2_push 31 = .ok (.iconst 1, 1) := by decide +kernel
theorem dX2_push_32 : decode cX2_push 32 = .ok (.iadd, 1) := by decide +kernel
theorem dX2_push_33 : decode cX2_push 33 = .ok (.bipush 12, 2) := by decide +kernel
theorem dX2_push_35 : decode cX2_push 35 = .ok (.invokestatic 29, 3) := by decide +kernel
theorem dX2_push_38 : decode cX2_push 38 = .ok (.putfield 18, 3) := by decide +kernel
theorem dX2_push_41 : decode cX2_push 41 = .ok (.return_, 1) := by decide +kernel
theorem dX3_await_0 : decode cX3_await 0 = .ok (.aload_n 0, 1) := by decide +kernel
theorem dX3_await_1 : decode cX3_await 1 = .ok (.getfield 32, 3) := by decide +kernel
theorem dX3_await_4 : decode cX3_await 4 = .ok (.aload_n 0, 1) := by decide +kernel
theorem dX3_await_5 : decode cX3_await 5 = .ok (.getfield 15, 3) := by decide +kernel
theorem dX3_await_8 : decode cX3_await 8 = .ok (.arraylength, 1) := by decide +kernel
theorem dX3_await_9 : decode cX3_await 9 = .ok (.if_icmp .ge 23, 3) := by decide +kernel
theorem dX3_await_12 : decode cX3_await 12 = .ok (.aload_n 0, 1) := by decide +kernel
theorem dX3_await_13 : decode cX3_await 13 = .ok (.getfield 15, 3) := by decide +kernel
theorem dX3_await_16 : decode cX3_await 16 = .ok (.aload_n 0, 1) := by decide +kernel
theorem dX3_await_17 : decode cX3_await 17 = .ok (.getfield 32, 3) := by decide +kernel
theorem dX3_await_20 : decode cX3_await 20 = .ok (.iload_n 1, 1) := by decide +kernel
theorem dX3_await_21 : decode cX3_await 21 = .ok (.iastore, 1) := by decide +kernel
theorem dX3_await_22 : decode cX3_await 22 = .ok (.aload_n 0, 1) := by decide +kernel
theorem dX3_await_23 : decode cX3_await 23 = .ok (.dup, 1) := by decide +kernel
theorem dX3_await_24 : decode cX3_await 24 = .ok (.getfield 32, 3) := by decide +kernel
theorem dX3_await_27 : decode cX3_await 27 = .ok (.iconst 1, 1) := by decide +kernel
theorem dX3_await_28 : decode cX3_await 28 = .ok (.iadd, 1) := by decide +kernel
theorem dX3_await_29 : decode cX3_await 29 = .ok (.putfield 32, 3) := by decide +kernel
theorem dX3_await_32 : decode cX3_await 32 = .ok (.return_, 1) := by decide +kernel
theorem dX3_begin_0 : decode cX3_begin 0 = .ok (.aload_n 0, 1) := by decide +kernel
theorem dX3_begin_1 : decode cX3_begin 1 = .ok (.iconst 0, 1) := by decide +kernel
theorem dX3_begin_2 : decode cX3_begin 2 = .ok (.putfield 28, 3) := by decide +kernel
theorem dX3_begin_5 : decode cX3_begin 5 = .ok (.aload_n 0, 1) := by decide +kernel
theorem dX3_begin_6 : decode cX3_begin 6 = .ok (.iconst 0, 1) := by decide +kernel
theorem dX3_begin_7 : decode cX3_begin 7 = .ok (.putfield 32, 3) := by decide +kernel
theorem dX3_begin_10 : decode cX3_begin 10 = .ok (.aload_n 0, 1) := by decide +kernel
theorem dX3_begin_11 : decode cX3_begin 11 = .ok (.iconst 0, 1) := by decide +kernel
theorem dX3_begin_12 : decode cX3_begin 12 = .ok (.putfield 35, 3) := by decide +kernel
theorem dX3_begin_15 : decode cX3_begin 15 = .ok (.aload_n 0, 1) := by decide +kernel
theorem dX3_begin_16 : decode cX3_begin 16 = .ok (.iconst 0, 1) := by decide +kernel
theorem dX3_begin_17 : decode cX3_begin 17 = .ok (.putfield 38, 3) := by decide +kernel
theorem dX3_begin_20 : decode cX3_begin 20 = .ok (.aload_n 0, 1) := by decide +kernel
theorem dX3_begin_21 : decode cX3_begin 21 = .ok (.iconst 1, 1) := by decide +kernel
theorem dX3_begin_22 : decode cX3_begin 22 = .ok (.putfield 41, 3) := by decide +kernel
theorem dX3_begin_25 : decode cX3_begin 25 = .ok (.aload_n 0, 1) := by decide +kernel
theorem dX3_begin_26 : decode cX3_begin 26 = .ok (.getfield 21, 3) := by decide +kernel
theorem dX3_begin_29 : decode cX3_begin 29 = .ok (.iconst 0, 1) := by decide +kernel
theorem dX3_begin_30 : decode cX3_begin 30 = .ok (.iconst 0, 1) := by decide +kernel
theorem dX3_begin_31 : decode cX3_begin 31 = .ok (.bastore, 1) := by decide +kernel
theorem dX3_begin_32 : decode cX3_begin 32 = .ok (.return_, 1) := by decide +kernel
theorem dX3_binding_0 : decode cX3_binding 0 = .ok (.iload_n 0, 1) := by decide +kernel
theorem dX3_binding_1 : decode cX3_binding 1 = .ok (.lookupswitch 83 #[(42, 79), (43, 77), (45, 77), (47, 79), (60, 75), (61, 75), (62, 75), (256, 81)], 75) := by decide +kernel
theorem dX3_binding_76 : decode cX3_binding 76 = .ok (.iconst 1, 1) := by decide +kernel
theorem dX3_binding_77 : decode cX3_binding 77 = .ok (.ireturn, 1) := by decide +kernel
theorem dX3_binding_78 : decode cX3_binding 78 = .ok (.iconst 2, 1) := by decide +kernel
theorem dX3_binding_79 : decode cX3_binding 79 = .ok (.ireturn, 1) := by decide +kernel
theorem dX3_binding_80 : decode cX3_binding 80 = .ok (.iconst 3, 1) := by decide +kernel
theorem dX3_binding_81 : decode cX3_binding 81 = .ok (.ireturn, 1) := by decide +kernel
theorem dX3_binding_84 : decode cX3_binding 84 = .ok (.iconst 0, 1) := by decide +kernel
theorem dX3_binding_85 : decode cX3_binding 85 = .ok (.ireturn, 1) := by decide +kernel
theorem dX3_closeBracket_0 : decode cX3_closeBracket 0 = .ok (.aload_n 0, 1) := by decide +kernel
theorem dX3_closeBracket_1 : decode cX3_closeBracket 1 = .ok (.getfield 35, 3) := by decide +kernel
theorem dX3_closeBracket_4 : decode cX3_closeBracket 4 = .ok (.ifCond .ne 5, 3) := by decide +kernel
theorem dX3_closeBracket_9 : decode cX3_closeBracket 9 = .ok (.aload_n 0, 1) := by decide +kernel
theorem dX3_closeBracket_10 : decode cX3_closeBracket 10 = .ok (.iconst 1, 1) := by decide +kernel
theorem dX3_closeBracket_11 : decode cX3_closeBracket 11 = .ok (.invokevirtual 67, 3) := by decide +kernel
theorem dX3_closeBracket_14 : decode cX3_closeBracket 14 = .ok (.aload_n 0, 1) := by decide +kernel
theorem dX3_closeBracket_15 : decode cX3_closeBracket 15 = .ok (.dup, 1) := by decide +kernel
theorem dX3_closeBracket_16 : decode cX3_closeBracket 16 = .ok (.getfield 35, 3) := by decide +kernel
theorem dX3_closeBracket_19 : decode cX3_closeBracket 19 = .ok (.iconst 1, 1) := by decide +kernel
theorem dX3_closeBracket_20 : decode cX3_closeBracket 20 = .ok (.isub, 1) := by decide +kernel
theorem dX3_closeBracket_21 : decode cX3_closeBracket 21 = .ok (.putfield 35, 3) := by decide +kernel
theorem dX3_closeBracket_24 : decode cX3_closeBracket 24 = .ok (.aload_n 0, 1) := by decide +kernel
theorem dX3_closeBracket_25 : decode cX3_closeBracket 25 = .ok (.iconst 0, 1) := by decide +kernel
theorem dX3_closeBracket_26 : decode cX3_closeBracket 26 = .ok (.aload_n 0, 1) := by decide +kernel
theorem dX3_closeBracket_27 : decode cX3_closeBracket 27 = .ok (.getfield 32, 3) := by decide +kernel
theorem dX3_closeBracket_30 : decode cX3_closeBracket 30 = .ok (.iconst 1, 1) := by decide +kernel
theorem dX3_closeBracket_31 : decode cX3_closeBracket 31 = .ok (.isub, 1) := by decide +kernel
theorem dX3_closeBracket_32 : decode cX3_closeBracket 32 = .ok (.invokestatic 112, 3) := by decide +kernel
theorem dX3_closeBracket_35 : decode cX3_closeBracket 35 = .ok (.putfield 32, 3) := by decide +kernel
theorem dX3_closeBracket_38 : decode cX3_closeBracket 38 = .ok (.iconst 1, 1) := by decide +kernel
theorem dX3_closeBracket_39 : decode cX3_closeBracket 39 = .ok (.ireturn, 1) := by decide +kernel
theorem dX3_emit_0 : decode cX3_emit 0 = .ok (.aload_n 0, 1) := by decide +kernel
theorem dX3_emit_1 : decode cX3_emit 1 = .ok (.getfield 28, 3) := by decide +kernel
theorem dX3_emit_4 : decode cX3_emit 4 = .ok (.aload_n 0, 1) := by decide +kernel
theorem dX3_emit_5 : decode cX3_emit 5 = .ok (.getfield 11, 3) := by decide +kernel
theorem dX3_emit_8 : decode cX3_emit 8 = .ok (.arraylength, 1) := by decide +kernel
theorem dX3_emit_9 : decode cX3_emit 9 = .ok (.if_icmp .ge 23, 3) := by decide +kernel
theorem dX3_emit_12 : decode cX3_emit 12 = .ok (.aload_n 0, 1) := by decide +kernel
theorem dX3_emit_13 : decode cX3_emit 13 = .ok (.getfield 11, 3) := by decide +kernel
theorem dX3_emit_16 : decode cX3_emit 16 = .ok (.aload_n 0, 1) := by decide +kernel
theorem dX3_emit_17 : decode cX3_emit 17 = .ok (.getfield 28, 3) := by decide +kernel
theorem dX3_emit_20 : decode cX3_emit 20 = .ok (.iload_n 1, 1) := by decide +kernel
theorem dX3_emit_21 : decode cX3_emit 21 = .ok (.iastore, 1) := by decide +kernel
theorem dX3_emit_22 : decode cX3_emit 22 = .ok (.aload_n 0, 1) := by decide +kernel
theorem dX3_emit_23 : decode cX3_emit 23 = .ok (.dup, 1) := by decide +kernel
theorem dX3_emit_24 : decode cX3_emit 24 = .ok (.getfield 28, 3) := by decide +kernel
theorem dX3_emit_27 : decode cX3_emit 27 = .ok (.iconst 1, 1) := by decide +kernel
theorem dX3_emit_28 : decode cX3_emit 28 = .ok (.iadd, 1) := by decide +kernel
theorem dX3_emit_29 : decode cX3_emit 29 = .ok (.putfield 28, 3) := by decide +kernel
theorem dX3_emit_32 : decode cX3_emit 32 = .ok (.return_, 1) := by decide +kernel
theorem dX3_init_0 : decode cX3_init 0 = .ok (.aload_n 0, 1) := by decide +kernel
theorem dX3_init_1 : decode cX3_init 1 = .ok (.invokespecial 3, 3) := by decide +kernel
theorem dX3_init_4 : decode cX3_init 4 = .ok (.aload_n 0, 1) := by decide +kernel
theorem dX3_init_5 : decode cX3_init 5 = .ok (.bipush 40, 2) := by decide +kernel
theorem dX3_init_7 : decode cX3_init 7 = .ok (.newarray .int, 2) := by decide +kernel
theorem dX3_init_9 : decode cX3_init 9 = .ok (.putfield 11, 3) := by decide +kernel
theorem dX3_init_12 : decode cX3_init 12 = .ok (.aload_n 0, 1) := by decide +kernel
theorem dX3_init_13 : decode cX3_init 13 = .ok (.bipush 40, 2) := by decide +kernel
theorem dX3_init_15 : decode cX3_init 15 = .ok (.newarray .int, 2) := by decide +kernel
theorem dX3_init_17 : decode cX3_init 17 = .ok (.putfield 15, 3) := by decide +kernel
theorem dX3_init_20 : decode cX3_init 20 = .ok (.aload_n 0, 1) := by decide +kernel
theorem dX3_init_21 : decode cX3_init 21 = .ok (.bipush 40, 2) := by decide +kernel
theorem dX3_init_23 : decode cX3_init 23 = .ok (.newarray .int, 2) := by decide +kernel
theorem dX3_init_25 : decode cX3_init 25 = .ok (.putfield 18, 3) := by decide +kernel
theorem dX3_init_28 : decode cX3_init 28 = .ok (.aload_n 0, 1) := by decide +kernel
theorem dX3_init_29 : decode cX3_init 29 = .ok (.iconst 5, 1) := by decide +kernel
theorem dX3_init_30 : decode cX3_init 30 = .ok (.newarray .boolean, 2) := by decide +kernel
theorem dX3_init_32 : decode cX3_init 32 = .ok (.putfield 21, 3) := by decide +kernel
theorem dX3_init_35 : decode cX3_init 35 = .ok (.aload_n 0, 1) := by decide +kernel
theorem dX3_init_36 : decode cX3_init 36 = .ok (.invokevirtual 25, 3) := by decide +kernel
theorem dX3_init_39 : decode cX3_init 39 = .ok (.return_, 1) := by decide +kernel
theorem dX3_openBracket_0 : decode cX3_openBracket 0 = .ok (.aload_n 0, 1) := by decide +kernel
theorem dX3_openBracket_1 : decode cX3_openBracket 1 = .ok (.getfield 35, 3) := by decide +kernel
theorem dX3_openBracket_4 : decode cX3_openBracket 4 = .ok (.iconst 4, 1) := by decide +kernel
theorem dX3_openBracket_5 : decode cX3_openBracket 5 = .ok (.if_icmp .lt 5, 3) := by decide +kernel
theorem dX3_openBracket_10 : decode cX3_openBracket 10 = .ok (.aload_n 0, 1) := by decide +kernel
theorem dX3_openBracket_11 : decode cX3_openBracket 11 = .ok (.dup, 1) := by decide +kernel
theorem dX3_openBracket_12 : decode cX3_openBracket 12 = .ok (.getfield 35, 3) := by decide +kernel
theorem dX3_openBracket_15 : decode cX3_openBracket 15 = .ok (.iconst 1, 1) := by decide +kernel
theorem dX3_openBracket_16 : decode cX3_openBracket 16 = .ok (.iadd, 1) := by decide +kernel
theorem dX3_openBracket_17 : decode cX3_openBracket 17 = .ok (.putfield 35, 3) := by decide +kernel
theorem dX3_openBracket_20 : decode cX3_openBracket 20 = .ok (.aload_n 0, 1) := by decide +kernel
theorem dX3_openBracket_21 : decode cX3_openBracket 21 = .ok (.getfield 21, 3) := by decide +kernel
theorem dX3_openBracket_24 : decode cX3_openBracket 24 = .ok (.aload_n 0, 1) := by decide +kernel
theorem dX3_openBracket_25 : decode cX3_openBracket 25 = .ok (.getfield 35, 3) := by decide +kernel
theorem dX3_openBracket_28 : decode cX3_openBracket 28 = .ok (.iconst 0, 1) := by decide +kernel
theorem dX3_openBracket_29 : decode cX3_openBracket 29 = .ok (.bastore, 1) := by decide +kernel
theorem dX3_openBracket_30 : decode cX3_openBracket 30 = .ok (.aload_n 0, 1) := by decide +kernel
theorem dX3_openBracket_31 : decode cX3_openBracket 31 = .ok (.bipush 40, 2) := by decide +kernel
theorem dX3_openBracket_33 : decode cX3_openBracket 33 = .ok (.invokevirtual 85, 3) := by decide +kernel
theorem dX3_openBracket_36 : decode cX3_openBracket 36 = .ok (.iconst 1, 1) := by decide +kernel
theorem dX3_openBracket_37 : decode cX3_openBracket 37 = .ok (.ireturn, 1) := by decide +kernel
theorem dX3_read_0 : decode cX3_read 0 = .ok (.aload_n 1, 1) := by decide +kernel
theorem dX3_read_1 : decode cX3_read 1 = .ok (.getfield 71, 3) := by decide +kernel
theorem dX3_read_4 : decode cX3_read 4 = .ok (.ifCond .ne 9, 3) := by decide +kernel
theorem dX3_read_7 : decode cX3_read 7 = .ok (.aload_n 0, 1) := by decide +kernel
theorem dX3_read_8 : decode cX3_read 8 = .ok (.invokevirtual 25, 3) := by decide +kernel
theorem dX3_read_11 : decode cX3_read 11 = .ok (.iconst (-1), 1) := by decide +kernel
theorem dX3_read_12 : decode cX3_read 12 = .ok (.ireturn, 1) := by decide +kernel
theorem dX3_readFirst_0 : decode cX3_readFirst 0 = .ok (.aload_n 0, 1) := by decide +kernel
theorem dX3_readFirst_1 : decode cX3_readFirst 1 = .ok (.invokevirtual 45, 3) := by decide +kernel
theorem dX3_readFirst_4 : decode cX3_readFirst 4 = .ok (.iconst 0, 1) := by decide +kernel
theorem dX3_readFirst_5 : decode cX3_readFirst 5 = .ok (.istore_n 1, 1) := by decide +kernel
theorem dX3_readFirst_6 : decode cX3_readFirst 6 = .ok (.iload_n 1, 1) := by decide +kernel
theorem dX3_readFirst_7 : decode cX3_readFirst 7 = .ok (.ldc 48, 2) := by decide +kernel
theorem dX3_readFirst_9 : decode cX3_readFirst 9 = .ok (.invokevirtual 50, 3) := by decide +kernel
theorem dX3_readFirst_12 : decode cX3_readFirst 12 = .ok (.if_icmp .ge 41, 3) := by decide +kernel
theorem dX3_readFirst_15 : decode cX3_readFirst 15 = .ok (.aload_n 0, 1) := by decide +kernel
theorem dX3_readFirst_16 : decode cX3_readFirst 16 = .ok (.getfield 41, 3) := by decide +kernel
theorem dX3_readFirst_19 : decode cX3_readFirst 19 = .ok (.ifCond .eq 17, 3) := by decide +kernel
theorem dX3_readFirst_22 : decode cX3_readFirst 22 = .ok (.aload_n 0, 1) := by decide +kernel
theorem dX3_readFirst_23 : decode cX3_readFirst 23 = .ok (.ldc 48, 2) := by decide +kernel
theorem dX3_readFirst_25 : decode cX3_readFirst 25 = .ok (.iload_n 1, 1) := by decide +kernel
theorem dX3_readFirst_26 : decode cX3_readFirst 26 = .ok (.invokevirtual 56, 3) := by decide +kernel
theorem dX3_readFirst_29 : decode cX3_readFirst 29 = .ok (.invokevirtual 60, 3) := by decide +kernel
theorem dX3_readFirst_32 : decode cX3_readFirst 32 = .ok (.pop, 1) := by decide +kernel
theorem dX3_readFirst_33 : decode cX3_readFirst 33 = .ok (.goto 14, 3) := by decide +kernel
theorem dX3_readFirst_36 : decode cX3_readFirst 36 = .ok (.aload_n 0, 1) := by decide +kernel
theorem dX3_readFirst_37 : decode cX3_readFirst 37 = .ok (.ldc 48, 2) := by decide +kernel
theorem dX3_readFirst_39 : decode cX3_readFirst 39 = .ok (.iload_n 1, 1) := by decide +kernel
theorem dX3_readFirst_40 : decode cX3_readFirst 40 = .ok (.invokevirtual 56, 3) := by decide +kernel
theorem dX3_readFirst_43 : decode cX3_readFirst 43 = .ok (.invokevirtual 64, 3) := by decide +kernel
theorem dX3_readFirst_46 : decode cX3_readFirst 46 = .ok (.pop, 1) := by decide +kernel
theorem dX3_readFirst_47 : decode cX3_readFirst 47 = .ok (.iinc 1 1, 3) := by decide +kernel
theorem dX3_readFirst_50 : decode cX3_readFirst 50 = .ok (.goto (-44), 3) := by decide +kernel
theorem dX3_readFirst_53 : decode cX3_readFirst 53 = .ok (.aload_n 0, 1) := by decide +kernel
theorem dX3_readFirst_54 : decode cX3_readFirst 54 = .ok (.iconst 1, 1) := by decide +kernel
theorem dX3_readFirst_55 : decode cX3_readFirst 55 = .ok (.invokevirtual 67, 3) := by decide +kernel
theorem dX3_readFirst_58 : decode cX3_readFirst 58 = .ok (.return_, 1) := by decide +kernel
theorem dX3_reckonDownTo_0 : decode cX3_reckonDownTo 0 = .ok (.aload_n 0, 1) := by decide +kernel
theorem dX3_reckonDownTo_1 : decode cX3_reckonDownTo 1 = .ok (.getfield 32, 3) := by decide +kernel
theorem dX3_reckonDownTo_4 : decode cX3_reckonDownTo 4 = .ok (.ifCond .le 48, 3) := by decide +kernel
theorem dX3_reckonDownTo_7 : decode cX3_reckonDownTo 7 = .ok (.aload_n 0, 1) := by decide +kernel
theorem dX3_reckonDownTo_8 : decode cX3_reckonDownTo 8 = .ok (.getfield 15, 3) := by decide +kernel
theorem dX3_reckonDownTo_11 : decode cX3_reckonDownTo 11 = .ok (.aload_n 0, 1) := by decide +kernel
theorem dX3_reckonDownTo_12 : decode cX3_reckonDownTo 12 = .ok (.getfield 32, 3) := by decide +kernel
theorem dX3_reckonDownTo_15 : decode cX3_reckonDownTo 15 = .ok (.iconst 1, 1) := by decide +kernel
theorem dX3_reckonDownTo_16 : decode cX3_reckonDownTo 16 = .ok (.isub, 1) := by decide +kernel
theorem dX3_reckonDownTo_17 : decode cX3_reckonDownTo 17 = .ok (.iaload, 1) := by decide +kernel
theorem dX3_reckonDownTo_18 : decode cX3_reckonDownTo 18 = .ok (.invokestatic 109, 3) := by decide +kernel
theorem dX3_reckonDownTo_21 : decode cX3_reckonDownTo 21 = .ok (.iload_n 1, 1) := by decide +kernel
theorem dX3_reckonDownTo_22 : decode cX3_reckonDownTo 22 = .ok (.if_icmp .lt 30, 3) := by decide +kernel
theorem dX3_reckonDownTo_25 : decode cX3_reckonDownTo 25 = .ok (.aload_n 0, 1) := by decide +kernel
theorem dX3_reckonDownTo_26 : decode cX3_reckonDownTo 26 = .ok (.dup, 1) := by decide +kernel
theorem dX3_reckonDownTo_27 : decode cX3_reckonDownTo 27 = .ok (.getfield 32, 3) := by decide +kernel
theorem dX3_reckonDownTo_30 : decode cX3_reckonDownTo 30 = .ok (.iconst 1, 1) := by decide +kernel
theorem dX3_reckonDownTo_31 : decode cX3_reckonDownTo 31 = .ok (.isub, 1) := by decide +kernel
theorem dX3_reckonDownTo_32 : decode cX3_reckonDownTo 32 = .ok (.putfield 32, 3) := by decide +kernel
theorem dX3_reckonDownTo_35 : decode cX3_reckonDownTo 35 = .ok (.aload_n 0, 1) := by decide +kernel
theorem dX3_reckonDownTo_36 : decode cX3_reckonDownTo 36 = .ok (.aload_n 0, 1) := by decide +kernel
theorem dX3_reckonDownTo_37 : decode cX3_reckonDownTo 37 = .ok (.getfield 15, 3) := by decide +kernel
theorem dX3_reckonDownTo_40 : decode cX3_reckonDownTo 40 = .ok (.aload_n 0, 1) := by decide +kernel
theorem dX3_reckonDownTo_41 : decode cX3_reckonDownTo 41 = .ok (.getfield 32, 3) := by decide +kernel
theorem dX3_reckonDownTo_44 : decode cX3_reckonDownTo 44 = .ok (.iaload, 1) := by decide +kernel
theorem dX3_reckonDownTo_45 : decode cX3_reckonDownTo 45 = .ok (.ineg, 1) := by decide +kernel
theorem dX3_reckonDownTo_46 : decode cX3_reckonDownTo 46 = .ok (.invokevirtual 100, 3) := by decide +kernel
theorem dX3_reckonDownTo_49 : decode cX3_reckonDownTo 49 = .ok (.goto (-49), 3) := by decide +kernel
theorem dX3_reckonDownTo_52 : decode cX3_reckonDownTo 52 = .ok (.return_, 1) := by decide +kernel
theorem dX3_takeBehindThing_0 : decode cX3_takeBehindThing 0 = .ok (.iload_n 1, 1) := by decide +kernel
theorem dX3_takeBehindThing_1 : decode cX3_takeBehindThing 1 = .ok (.invokestatic 97, 3) := by decide +kernel
theorem dX3_takeBehindThing_4 : decode cX3_takeBehindThing 4 = .ok (.ifCond .eq 12, 3) := by decide +kernel
theorem dX3_takeBehindThing_16 : decode cX3_takeBehindThing 16 = .ok (.aload_n 0, 1) := by decide +kernel
theorem dX3_takeBehindThing_17 : decode cX3_takeBehindThing 17 = .ok (.iconst 0, 1) := by decide +kernel
theorem dX3_takeBehindThing_18 : decode cX3_takeBehindThing 18 = .ok (.putfield 38, 3) := by decide +kernel
theorem dX3_takeBehindThing_21 : decode cX3_takeBehindThing 21 = .ok (.iload_n 1, 1) := by decide +kernel
theorem dX3_takeBehindThing_22 : decode cX3_takeBehindThing 22 = .ok (.bipush 41, 2) := by decide +kernel
theorem dX3_takeBehindThing_24 : decode cX3_takeBehindThing 24 = .ok (.if_icmp .ne 8, 3) := by decide +kernel
theorem dX3_takeBehindThing_27 : decode cX3_takeBehindThing 27 = .ok (.aload_n 0, 1) := by decide +kernel
theorem dX3_takeBehindThing_28 : decode cX3_takeBehindThing 28 = .ok (.invokevirtual 106, 3) := by decide +kernel
theorem dX3_takeBehindThing_31 : decode cX3_takeBehindThing 31 = .ok (.ireturn, 1) := by decide +kernel
theorem dX3_takeBehindThing_32 : decode cX3_takeBehindThing 32 = .ok (.iload_n 1, 1) := by decide +kernel
theorem dX3_takeBehindThing_33 : decode cX3_takeBehindThing 33 = .ok (.invokestatic 109, 3) := by decide +kernel
theorem dX3_takeBehindThing_36 : decode cX3_takeBehindThing 36 = .ok (.istore_n 2, 1) := by decide +kernel
theorem dX3_takeBehindThing_37 : decode cX3_takeBehindThing 37 = .ok (.iload_n 2, 1) := by decide +kernel
theorem dX3_takeBehindThing_38 : decode cX3_takeBehindThing 38 = .ok (.ifCond .eq 20, 3) := by decide +kernel
theorem dX3_takeBehindThing_41 : decode cX3_takeBehindThing 41 = .ok (.iload_n 2, 1) := by decide +kernel
theorem dX3_takeBehindThing_42 : decode cX3_takeBehindThing 42 = .ok (.iconst 1, 1) := by decide +kernel
theorem dX3_takeBehindThing_43 : decode cX3_takeBehindThing 43 = .ok (.if_icmp .ne 17, 3) := by decide +kernel
theorem dX3_takeBehindThing_46 : decode cX3_takeBehindThing 46 = .ok (.aload_n 0, 1) := by decide +kernel
theorem dX3_takeBehindThing_47 : decode cX3_takeBehindThing 47 = .ok (.getfield 21, 3) := by decide +kernel
theorem dX3_takeBehindThing_50 : decode cX3_takeBehindThing 50 = .ok (.aload_n 0, 1) := by decide +kernel
theorem dX3_takeBehindThing_51 : decode cX3_takeBehindThing 51 = .ok (.getfield 35, 3) := by decide +kernel
theorem dX3_takeBehindThing_54 : decode cX3_takeBehindThing 54 = .ok (.baload, 1) := by decide +kernel
theorem dX3_takeBehindThing_55 : decode cX3_takeBehindThing 55 = .ok (.ifCond .eq 5, 3) := by decide +kernel
theorem dX3_takeBehindThing_60 : decode cX3_takeBehindThing 60 = .ok (.aload_n 0, 1) := by decide +kernel
theorem dX3_takeBehindThing_61 : decode cX3_takeBehindThing 61 = .ok (.getfield 21, 3) := by decide +kernel
theorem dX3_takeBehindThing_64 : decode cX3_takeBehindThing 64 = .ok (.aload_n 0, 1) := by decide +kernel
theorem dX3_takeBehindThing_65 : decode cX3_takeBehindThing 65 = .ok (.getfield 35, 3) := by decide +kernel
theorem dX3_takeBehindThing_68 : decode cX3_takeBehindThing 68 = .ok (.aload_n 0, 1) := by decide +kernel
theorem dX3_takeBehindThing_69 : decode cX3_takeBehindThing 69 = .ok (.getfield 21, 3) := by decide +kernel
theorem dX3_takeBehindThing_72 : decode cX3_takeBehindThing 72 = .ok (.aload_n 0, 1) := by decide +kernel
theorem dX3_takeBehindThing_73 : decode cX3_takeBehindThing 73 = .ok (.getfield 35, 3) := by decide +kernel
theorem dX3_takeBehindThing_76 : decode cX3_takeBehindThing 76 = .ok (.baload, 1) := by decide +kernel
theorem dX3_takeBehindThing_77 : decode cX3_takeBehindThing 77 = .ok (.ifCond .ne 8, 3) := by decide +kernel
theorem dX3_takeBehindThing_80 : decode cX3_takeBehindThing 80 = .ok (.iload_n 2, 1) := by decide +kernel
theorem dX3_takeBehindThing_81 : decode cX3_takeBehindThing 81 = .ok (.iconst 1, 1) := by decide +kernel
theorem dX3_takeBehindThing_82 : decode cX3_takeBehindThing 82 = .ok (.if_icmp .ne 7, 3) := by decide +kernel
theorem dX3_takeBehindThing_85 : decode cX3_takeBehindThing 85 = .ok (.iconst 1, 1) := by decide +kernel
theorem dX3_takeBehindThing_86 : decode cX3_takeBehindThing 86 = .ok (.goto 4, 3) := by decide +kernel
theorem dX3_takeBehindThing_89 : decode cX3_takeBehindThing 89 = .ok (.iconst 0, 1) := by decide +kernel
theorem dX3_takeBehindThing_90 : decode cX3_takeBehindThing 90 = .ok (.bastore, 1) := by decide +kernel
theorem dX3_takeBehindThing_91 : decode cX3_takeBehindThing 91 = .ok (.aload_n 0, 1) := by decide +kernel
theorem dX3_takeBehindThing_92 : decode cX3_takeBehindThing 92 = .ok (.iload_n 2, 1) := by decide +kernel
theorem dX3_takeBehindThing_93 : decode cX3_takeBehindThing 93 = .ok (.invokevirtual 67, 3) := by decide +kernel
theorem dX3_takeBehindThing_96 : decode cX3_takeBehindThing 96 = .ok (.aload_n 0, 1) := by decide +kernel
theorem dX3_takeBehindThing_97 : decode cX3_takeBehindThing 97 = .ok (.iload_n 1, 1) := by decide +kernel
theorem dX3_takeBehindThing_98 : decode cX3_takeBehindThing 98 = .ok (.invokevirtual 85, 3) := by decide +kernel
theorem dX3_takeBehindThing_101 : decode cX3_takeBehindThing 101 = .ok (.aload_n 0, 1) := by decide +kernel
theorem dX3_takeBehindThing_102 : decode cX3_takeBehindThing 102 = .ok (.iconst 1, 1) := by decide +kernel
theorem dX3_takeBehindThing_103 : decode cX3_takeBehindThing 103 = .ok (.putfield 41, 3) := by decide +kernel
theorem dX3_takeBehindThing_106 : decode cX3_takeBehindThing 106 = .ok (.iconst 1, 1) := by decide +kernel
theorem dX3_takeBehindThing_107 : decode cX3_takeBehindThing 107 = .ok (.ireturn, 1) := by decide +kernel
theorem dX3_takeThing_0 : decode cX3_takeThing 0 = .ok (.iload_n 1, 1) := by decide +kernel
theorem dX3_takeThing_1 : decode cX3_takeThing 1 = .ok (.bipush 45, 2) := by decide +kernel
theorem dX3_takeThing_3 : decode cX3_takeThing 3 = .ok (.if_icmp .ne 12, 3) := by decide +kernel
theorem dX3_takeThing_15 : decode cX3_takeThing 15 = .ok (.iload_n 1, 1) := by decide +kernel
theorem dX3_takeThing_16 : decode cX3_takeThing 16 = .ok (.bipush 40, 2) := by decide +kernel
theorem dX3_takeThing_18 : decode cX3_takeThing 18 = .ok (.if_icmp .ne 8, 3) := by decide +kernel
theorem dX3_takeThing_21 : decode cX3_takeThing 21 = .ok (.aload_n 0, 1) := by decide +kernel
theorem dX3_takeThing_22 : decode cX3_takeThing 22 = .ok (.invokevirtual 88, 3) := by decide +kernel
theorem dX3_takeThing_25 : decode cX3_takeThing 25 = .ok (.ireturn, 1) := by decide +kernel
theorem dX3_takeThing_26 : decode cX3_takeThing 26 = .ok (.ldc 92, 2) := by decide +kernel
theorem dX3_takeThing_28 : decode cX3_takeThing 28 = .ok (.iload_n 1, 1) := by decide +kernel
theorem dX3_takeThing_29 : decode cX3_takeThing 29 = .ok (.i2c, 1) := by decide +kernel
theorem dX3_takeThing_30 : decode cX3_takeThing 30 = .ok (.invokevirtual 94, 3) := by decide +kernel
theorem dX3_takeThing_33 : decode cX3_takeThing 33 = .ok (.istore_n 2, 1) := by decide +kernel
theorem dX3_takeThing_34 : decode cX3_takeThing 34 = .ok (.iload_n 1, 1) := by decide +kernel
theorem dX3_takeThing_35 : decode cX3_takeThing 35 = .ok (.invokestatic 97, 3) := by decide +kernel
theorem dX3_takeThing_38 : decode cX3_takeThing 38 = .ok (.ifCond .ne 9, 3) := by decide +kernel
theorem dX3_takeThing_41 : decode cX3_takeThing 41 = .ok (.iload_n 2, 1) := by decide +kernel
theorem dX3_takeThing_42 : decode cX3_takeThing 42 = .ok (.ifCond .ge 5, 3) := by decide +kernel
theorem dX3_takeThing_47 : decode cX3_takeThing 47 = .ok (.aload_n 0, 1) := by decide +kernel
theorem dX3_takeThing_48 : decode cX3_takeThing 48 = .ok (.iload_n 2, 1) := by decide +kernel
theorem dX3_takeThing_49 : decode cX3_takeThing 49 = .ok (.ifCond .ge 7, 3) := by decide +kernel
theorem dX3_takeThing_52 : decode cX3_takeThing 52 = .ok (.iconst 1, 1) := by decide +kernel
theorem dX3_takeThing_53 : decode cX3_takeThing 53 = .ok (.goto 4, 3) := by decide +kernel
theorem dX3_takeThing_56 : decode cX3_takeThing 56 = .ok (.iconst 0, 1) := by decide +kernel
theorem dX3_takeThing_57 : decode cX3_takeThing 57 = .ok (.putfield 38, 3) := by decide +kernel
theorem dX3_takeThing_60 : decode cX3_takeThing 60 = .ok (.aload_n 0, 1) := by decide +kernel
theorem dX3_takeThing_61 : decode cX3_takeThing 61 = .ok (.iload_n 2, 1) := by decide +kernel
theorem dX3_takeThing_62 : decode cX3_takeThing 62 = .ok (.ifCond .ge 10, 3) := by decide +kernel
theorem dX3_takeThing_65 : decode cX3_takeThing 65 = .ok (.iload_n 1, 1) := by decide +kernel
theorem dX3_takeThing_66 : decode cX3_takeThing 66 = .ok (.bipush 48, 2) := by decide +kernel
theorem dX3_takeThing_68 : decode cX3_takeThing 68 = .ok (.isub, 1) := by decide +kernel
theorem dX3_takeThing_69 : decode cX3_takeThing 69 = .ok (.goto 6, 3) := by decide +kernel
theorem dX3_takeThing_72 : decode cX3_takeThing 72 = .ok (.iconst (-1), 1) := by decide +kernel
theorem dX3_takeThing_73 : decode cX3_takeThing 73 = .ok (.iload_n 2, 1) := by decide +kernel
theorem dX3_takeThing_74 : decode cX3_takeThing 74 = .ok (.isub, 1) := by decide +kernel
theorem dX3_takeThing_75 : decode cX3_takeThing 75 = .ok (.invokevirtual 100, 3) := by decide +kernel
theorem dX3_takeThing_78 : decode cX3_takeThing 78 = .ok (.aload_n 0, 1) := by decide +kernel
theorem dX3_takeThing_79 : decode cX3_takeThing 79 = .ok (.iconst 0, 1) := by decide +kernel
theorem dX3_takeThing_80 : decode cX3_takeThing 80 = .ok (.putfield 41, 3) := by decide +kernel
theorem dX3_takeThing_83 : decode cX3_takeThing 83 = .ok (.iconst 1, 1) := by decide +kernel
theorem dX3_takeThing_84 : decode cX3_takeThing 84 = .ok (.ireturn, 1) := by decide +kernel
theorem dX4_addLeast_0 : decode cX4_addLeast 0 = .ok (.aload_n 0, 1) := by decide +kernel
theorem dX4_addLeast_1 : decode cX4_addLeast 1 = .ok (.getfield 53, 3) := by decide +kernel
theorem dX4_addLeast_4 : decode cX4_addLeast 4 = .ok (.istore_n 2, 1) := by decide +kernel
theorem dX4_addLeast_5 : decode cX4_addLeast 5 = .ok (.iload_n 2, 1) := by decide +kernel
theorem dX4_addLeast_6 : decode cX4_addLeast 6 = .ok (.ifCond .le 79, 3) := by decide +kernel
theorem dX4_addLeast_9 : decode cX4_addLeast 9 = .ok (.iload_n 2, 1) := by decide +kernel
theorem dX4_addLeast_10 : decode cX4_addLeast 10 = .ok (.iload_n 1, 1) := by decide +kernel
theorem dX4_addLeast_11 : decode cX4_addLeast 11 = .ok (.iand, 1) := by decide +kernel
theorem dX4_addLeast_12 : decode cX4_addLeast 12 = .ok (.istore_n 3, 1) := by decide +kernel
theorem dX4_addLeast_13 : decode cX4_addLeast 13 = .ok (.aload_n 0, 1) := by decide +kernel
theorem dX4_addLeast_14 : decode cX4_addLeast 14 = .ok (.getfield 34, 3) := by decide +kernel
theorem dX4_addLeast_17 : decode cX4_addLeast 17 = .ok (.iload_n 2, 1) := by decide +kernel
theorem dX4_addLeast_18 : decode cX4_addLeast 18 = .ok (.laload, 1) := by decide +kernel
theorem dX4_addLeast_19 : decode cX4_addLeast 19 = .ok (.lstore 4, 2) := by decide +kernel
theorem dX4_addLeast_21 : decode cX4_addLeast 21 = .ok (.iload_n 3, 1) := by decide +kernel
theorem dX4_addLeast_22 : decode cX4_addLeast 22 = .ok (.istore 6, 2) := by decide +kernel
theorem dX4_addLeast_24 : decode cX4_addLeast 24 = .ok (.iload 6, 2) := by decide +kernel
theorem dX4_addLeast_26 : decode cX4_addLeast 26 = .ok (.ifCond .le 45, 3) := by decide +kernel
theorem dX4_addLeast_71 : decode cX4_addLeast 71 = .ok (.aload_n 0, 1) := by decide +kernel
theorem dX4_addLeast_72 : decode cX4_addLeast 72 = .ok (.getfield 34, 3) := by decide +kernel
theorem dX4_addLeast_75 : decode cX4_addLeast 75 = .ok (.iload_n 2, 1) := by decide +kernel
theorem dX4_addLeast_76 : decode cX4_addLeast 76 = .ok (.lload 4, 2) := by decide +kernel
theorem dX4_addLeast_78 : decode cX4_addLeast 78 = .ok (.lastore, 1) := by decide +kernel
theorem dX4_addLeast_79 : decode cX4_addLeast 79 = .ok (.iinc 2 (-1), 3) := by decide +kernel
theorem dX4_addLeast_82 : decode cX4_addLeast 82 = .ok (.goto (-77), 3) := by decide +kernel
theorem dX4_addLeast_85 : decode cX4_addLeast 85 = .ok (.return_, 1) := by decide +kernel
theorem dX4_addLeastMost_0 : decode cX4_addLeastMost 0 = .ok (.aload_n 0, 1) := by decide +kernel
theorem dX4_addLeastMost_1 : decode cX4_addLeastMost 1 = .ok (.getfield 53, 3) := by decide +kernel
theorem dX4_addLeastMost_4 : decode cX4_addLeastMost 4 = .ok (.istore_n 2, 1) := by decide +kernel
theorem dX4_addLeastMost_5 : decode cX4_addLeastMost 5 = .ok (.iload_n 2, 1) := by decide +kernel
theorem dX4_addLeastMost_6 : decode cX4_addLeastMost 6 = .ok (.ifCond .le 101, 3) := by decide +kernel
theorem dX4_addLeastMost_9 : decode cX4_addLeastMost 9 = .ok (.iload_n 2, 1) := by decide +kernel
theorem dX4_addLeastMost_10 : decode cX4_addLeastMost 10 = .ok (.iload_n 1, 1) := by decide +kernel
theorem dX4_addLeastMost_11 : decode cX4_addLeastMost 11 = .ok (.iand, 1) := by decide +kernel
theorem dX4_addLeastMost_12 : decode cX4_addLeastMost 12 = .ok (.istore_n 3, 1) := by decide +kernel
theorem dX4_addLeastMost_13 : decode cX4_addLeastMost 13 = .ok (.aload_n 0, 1) := by decide +kernel
theorem dX4_addLeastMost_14 : decode cX4_addLeastMost 14 = .ok (.getfield 34, 3) := by decide +kernel
theorem dX4_addLeastMost_17 : decode cX4_addLeastMost 17 = .ok (.iload_n 2, 1) := by decide +kernel
theorem dX4_addLeastMost_18 : decode cX4_addLeastMost 18 = .ok (.laload, 1) := by decide +kernel
theorem dX4_addLeastMost_19 : decode cX4_addLeastMost 19 = .ok (.lstore 4, 2) := by decide +kernel
theorem dX4_addLeastMost_21 : decode cX4_addLeastMost 21 = .ok (.iload_n 3, 1) := by decide +kernel
theorem dX4_addLeastMost_22 : decode cX4_addLeastMost 22 = .ok (.istore 6, 2) := by decide +kernel
theorem dX4_addLeastMost_24 : decode cX4_addLeastMost 24 = .ok (.iload 6, 2) := by decide +kernel
theorem dX4_addLeastMost_26 : decode cX4_addLeastMost 26 = .ok (.ifCond .le 67, 3) := by decide +kernel
theorem dX4_addLeastMost_93 : decode cX4_addLeastMost 93 = .ok (.aload_n 0, 1) := by decide +kernel
theorem dX4_addLeastMost_94 : decode cX4_addLeastMost 94 = .ok (.getfield 34, 3) := by decide +kernel
theorem dX4_addLeastMost_97 : decode cX4_addLeastMost 97 = .ok (.iload_n 2, 1) := by decide +kernel
theorem dX4_addLeastMost_98 : decode cX4_addLeastMost 98 = .ok (.lload 4, 2) := by decide +kernel
theorem dX4_addLeastMost_100 : decode cX4_addLeastMost 100 = .ok (.lastore, 1) := by decide +kernel
theorem dX4_addLeastMost_101 : decode cX4_addLeastMost 101 = .ok (.iinc 2 (-1), 3) := by decide +kernel
theorem dX4_addLeastMost_104 : decode cX4_addLeastMost 104 = .ok (.goto (-99), 3) := by decide +kernel
theorem dX4_addLeastMost_107 : decode cX4_addLeastMost 107 = .ok (.return_, 1) := by decide +kernel
theorem dX4_addStep_0 : decode cX4_addStep 0 = .ok (.iload_n 1, 1) := by decide +kernel
theorem dX4_addStep_1 : decode cX4_addStep 1 = .ok (.ifCond .ne 4, 3) := by decide +kernel
theorem dX4_addStep_4 : decode cX4_addStep 4 = .ok (.return_, 1) := by decide +kernel
theorem dX4_addWays_0 : decode cX4_addWays 0 = .ok (.aload_n 0, 1) := by decide +kernel
theorem dX4_addWays_1 : decode cX4_addWays 1 = .ok (.iload 4, 2) := by decide +kernel
theorem dX4_addWays_3 : decode cX4_addWays 3 = .ok (.invokevirtual 82, 3) := by decide +kernel
theorem dX4_addWays_6 : decode cX4_addWays 6 = .ok (.aload_n 0, 1) := by decide +kernel
theorem dX4_addWays_7 : decode cX4_addWays 7 = .ok (.getfield 53, 3) := by decide +kernel
theorem dX4_addWays_10 : decode cX4_addWays 10 = .ok (.istore 5, 2) := by decide +kernel
theorem dX4_addWays_12 : decode cX4_addWays 12 = .ok (.iload 5, 2) := by decide +kernel
theorem dX4_addWays_14 : decode cX4_addWays 14 = .ok (.ifCond .lt 86, 3) := by decide +kernel
theorem dX4_addWays_17 : decode cX4_addWays 17 = .ok (.iload 5, 2) := by decide +kernel
theorem dX4_addWays_19 : decode cX4_addWays 19 = .ok (.aload_n 0, 1) := by decide +kernel
theorem dX4_addWays_20 : decode cX4_addWays 20 = .ok (.getfield 9, 3) := by decide +kernel
theorem dX4_addWays_23 : decode cX4_addWays 23 = .ok (.iload 4, 2) := by decide +kernel
theorem dX4_addWays_25 : decode cX4_addWays 25 = .ok (.iaload, 1) := by decide +kernel
theorem dX4_addWays_26 : decode cX4_addWays 26 = .ok (.iand, 1) := by decide +kernel
theorem dX4_addWays_27 : decode cX4_addWays 27 = .ok (.istore 6, 2) := by decide +kernel
theorem dX4_addWays_29 : decode cX4_addWays 29 = .ok (.aload_n 1, 1) := by decide +kernel
theorem dX4_addWays_30 : decode cX4_addWays 30 = .ok (.iload_n 2, 1) := by decide +kernel
theorem dX4_addWays_31 : decode cX4_addWays 31 = .ok (.iload 5, 2) := by decide +kernel
theorem dX4_addWays_33 : decode cX4_addWays 33 = .ok (.iadd, 1) := by decide +kernel
theorem dX4_addWays_34 : decode cX4_addWays 34 = .ok (.iaload, 1) := by decide +kernel
theorem dX4_addWays_35 : decode cX4_addWays 35 = .ok (.istore 7, 2) := by decide +kernel
theorem dX4_addWays_37 : decode cX4_addWays 37 = .ok (.iload 6, 2) := by decide +kernel
theorem dX4_addWays_39 : decode cX4_addWays 39 = .ok (.istore 8, 2) := by decide +kernel
theorem dX4_addWays_41 : decode cX4_addWays 41 = .ok (.iload 8, 2) := by decide +kernel
theorem dX4_addWays_43 : decode cX4_addWays 43 = .ok (.ifCond .le 43, 3) := by decide +kernel
theorem dX4_addWays_86 : decode cX4_addWays 86 = .ok (.aload_n 1, 1) := by decide +kernel
theorem dX4_addWays_87 : decode cX4_addWays 87 = .ok (.iload_n 3, 1) := by decide +kernel
theorem dX4_addWays_88 : decode cX4_addWays 88 = .ok (.iload 5, 2) := by decide +kernel
theorem dX4_addWays_90 : decode cX4_addWays 90 = .ok (.iadd, 1) := by decide +kernel
theorem dX4_addWays_91 : decode cX4_addWays 91 = .ok (.iload 7, 2) := by decide +kernel
theorem dX4_addWays_93 : decode cX4_addWays 93 = .ok (.iastore, 1) := by decide +kernel
theorem dX4_addWays_94 : decode cX4_addWays 94 = .ok (.iinc 5 (-1), 3) := by decide +kernel
theorem dX4_addWays_97 : decode cX4_addWays 97 = .ok (.goto (-85), 3) := by decide +kernel
theorem dX4_addWays_100 : decode cX4_addWays 100 = .ok (.return_, 1) := by decide +kernel
theorem dX4_canHold_0 : decode cX4_canHold 0 = .ok (.aload_n 0, 1) := by decide +kernel
theorem dX4_canHold_1 : decode cX4_canHold 1 = .ok (.getfield 34, 3) := by decide +kernel
theorem dX4_canHold_4 : decode cX4_canHold 4 = .ok (.iload_n 1, 1) := by decide +kernel
theorem dX4_canHold_5 : decode cX4_canHold 5 = .ok (.aload_n 0, 1) := by decide +kernel
theorem dX4_canHold_6 : decode cX4_canHold 6 = .ok (.getfield 53, 3) := by decide +kernel
theorem dX4_canHold_9 : decode cX4_canHold 9 = .ok (.iand, 1) := by decide +kernel
theorem dX4_canHold_10 : decode cX4_canHold 10 = .ok (.laload, 1) := by decide +kernel
theorem dX4_canHold_11 : decode cX4_canHold 11 = .ok (.ldc2_w 80, 3) := by decide +kernel
theorem dX4_canHold_14 : decode cX4_canHold 14 = .ok (.lcmp, 1) := by decide +kernel
theorem dX4_canHold_15 : decode cX4_canHold 15 = .ok (.ifCond .ge 7, 3) := by decide +kernel
theorem dX4_canHold_22 : decode cX4_canHold 22 = .ok (.iconst 0, 1) := by decide +kernel
theorem dX4_canHold_23 : decode cX4_canHold 23 = .ok (.ireturn, 1) := by decide +kernel
theorem dX4_findLacks_0 : decode cX4_findLacks 0 = .ok (.iconst 0, 1) := by decide +kernel
theorem dX4_findLacks_1 : decode cX4_findLacks 1 = .ok (.istore_n 1, 1) := by decide +kernel
theorem dX4_findLacks_2 : decode cX4_findLacks 2 = .ok (.iload_n 1, 1) := by decide +kernel
theorem dX4_findLacks_3 : decode cX4_findLacks 3 = .ok (.sipush 256, 3) := by decide +kernel
theorem dX4_findLacks_6 : decode cX4_findLacks 6 = .ok (.if_icmp .ge 24, 3) := by decide +kernel
theorem dX4_findLacks_9 : decode cX4_findLacks 9 = .ok (.aload_n 0, 1) := by decide +kernel
theorem dX4_findLacks_10 : decode cX4_findLacks 10 = .ok (.getfield 46, 3) := by decide +kernel
theorem dX4_findLacks_13 : decode cX4_findLacks 13 = .ok (.iload_n 1, 1) := by decide +kernel
theorem dX4_findLacks_14 : decode cX4_findLacks 14 = .ok (.iload_n 1, 1) := by decide +kernel
theorem dX4_findLacks_15 : decode cX4_findLacks 15 = .ok (.ifCond .ne 7, 3) := by decide +kernel
theorem dX4_findLacks_18 : decode cX4_findLacks 18 = .ok (.iconst 1, 1) := by decide +kernel
theorem dX4_findLacks_19 : decode cX4_findLacks 19 = .ok (.goto 4, 3) := by decide +kernel
theorem dX4_findLacks_22 : decode cX4_findLacks 22 = .ok (.iconst 0, 1) := by decide +kernel
theorem dX4_findLacks_23 : decode cX4_findLacks 23 = .ok (.bastore, 1) := by decide +kernel
theorem dX4_findLacks_24 : decode cX4_findLacks 24 = .ok (.iinc 1 1, 3) := by decide +kernel
theorem dX4_findLacks_27 : decode cX4_findLacks 27 = .ok (.goto (-25), 3) := by decide +kernel
theorem dX4_findLacks_30 : decode cX4_findLacks 30 = .ok (.iconst 1, 1) := by decide +kernel
theorem dX4_findLacks_31 : decode cX4_findLacks 31 = .ok (.istore_n 1, 1) := by decide +kernel
theorem dX4_findLacks_32 : decode cX4_findLacks 32 = .ok (.iload_n 1, 1) := by decide +kernel
theorem dX4_findLacks_33 : decode cX4_findLacks 33 = .ok (.aload_n 0, 1) := by decide +kernel
theorem dX4_findLacks_34 : decode cX4_findLacks 34 = .ok (.getfield 53, 3) := by decide +kernel
theorem dX4_findLacks_37 : decode cX4_findLacks 37 = .ok (.if_icmp .gt 14, 3) := by decide +kernel
theorem dX4_findLacks_40 : decode cX4_findLacks 40 = .ok (.aload_n 0, 1) := by decide +kernel
theorem dX4_findLacks_41 : decode cX4_findLacks 41 = .ok (.iload_n 1, 1) := by decide +kernel
theorem dX4_findLacks_42 : decode cX4_findLacks 42 = .ok (.invokevirtual 120, 3) := by decide +kernel
theorem dX4_findLacks_45 : decode cX4_findLacks 45 = .ok (.iinc 1 1, 3) := by decide +kernel
theorem dX4_findLacks_48 : decode cX4_findLacks 48 = .ok (.goto (-16), 3) := by decide +kernel
theorem dX4_findLacks_51 : decode cX4_findLacks 51 = .ok (.return_, 1) := by decide +kernel
theorem dX4_findLacksIn_0 : decode cX4_findLacksIn 0 = .ok (.iload_n 1, 1) := by decide +kernel
theorem dX4_findLacksIn_1 : decode cX4_findLacksIn 1 = .ok (.invokestatic 99, 3) := by decide +kernel
theorem dX4_findLacksIn_4 : decode cX4_findLacksIn 4 = .ok (.istore_n 2, 1) := by decide +kernel
theorem dX4_findLacksIn_5 : decode cX4_findLacksIn 5 = .ok (.aload_n 0, 1) := by decide +kernel
theorem dX4_findLacksIn_6 : decode cX4_findLacksIn 6 = .ok (.getfield 50, 3) := by decide +kernel
theorem dX4_findLacksIn_9 : decode cX4_findLacksIn 9 = .ok (.iconst 0, 1) := by decide +kernel
theorem dX4_findLacksIn_10 : decode cX4_findLacksIn 10 = .ok (.iconst 0, 1) := by decide +kernel
theorem dX4_findLacksIn_11 : decode cX4_findLacksIn 11 = .ok (.iastore, 1) := by decide +kernel
theorem dX4_findLacksIn_12 : decode cX4_findLacksIn 12 = .ok (.iconst 0, 1) := by decide +kernel
theorem dX4_findLacksIn_13 : decode cX4_findLacksIn 13 = .ok (.istore_n 3, 1) := by decide +kernel
theorem dX4_findLacksIn_14 : decode cX4_findLacksIn 14 = .ok (.iload_n 3, 1) := by decide +kernel
theorem dX4_findLacksIn_15 : decode cX4_findLacksIn 15 = .ok (.bipush 8, 2) := by decide +kernel
theorem dX4_findLacksIn_17 : decode cX4_findLacksIn 17 = .ok (.if_icmp .ge 93, 3) := by decide +kernel
theorem dX4_findLacksIn_20 : decode cX4_findLacksIn 20 = .ok (.iconst 1, 1) := by decide +kernel
theorem dX4_findLacksIn_21 : decode cX4_findLacksIn 21 = .ok (.iload_n 3, 1) := by decide +kernel
theorem dX4_findLacksIn_22 : decode cX4_findLacksIn 22 = .ok (.ishl, 1) := by decide +kernel
theorem dX4_findLacksIn_23 : decode cX4_findLacksIn 23 = .ok (.istore 4, 2) := by decide +kernel
theorem dX4_findLacksIn_25 : decode cX4_findLacksIn 25 = .ok (.aload_n 0, 1) := by decide +kernel
theorem dX4_findLacksIn_26 : decode cX4_findLacksIn 26 = .ok (.getfield 15, 3) := by decide +kernel
theorem dX4_findLacksIn_29 : decode cX4_findLacksIn 29 = .ok (.iload_n 3, 1) := by decide +kernel
theorem dX4_findLacksIn_30 : decode cX4_findLacksIn 30 = .ok (.iaload, 1) := by decide +kernel
theorem dX4_findLacksIn_31 : decode cX4_findLacksIn 31 = .ok (.aload_n 0, 1) := by decide +kernel
theorem dX4_findLacksIn_32 : decode cX4_findLacksIn 32 = .ok (.getfield 9, 3) := by decide +kernel
theorem dX4_findLacksIn_35 : decode cX4_findLacksIn 35 = .ok (.iload_n 3, 1) := by decide +kernel
theorem dX4_findLacksIn_36 : decode cX4_findLacksIn 36 = .ok (.iaload, 1) := by decide +kernel
theorem dX4_findLacksIn_37 : decode cX4_findLacksIn 37 = .ok (.iload_n 1, 1) := by decide +kernel
theorem dX4_findLacksIn_38 : decode cX4_findLacksIn 38 = .ok (.iand, 1) := by decide +kernel
theorem dX4_findLacksIn_39 : decode cX4_findLacksIn 39 = .ok (.invokestatic 99, 3) := by decide +kernel
theorem dX4_findLacksIn_42 : decode cX4_findLacksIn 42 = .ok (.invokestatic 123, 3) := by decide +kernel
theorem dX4_findLacksIn_45 : decode cX4_findLacksIn 45 = .ok (.istore 5, 2) := by decide +kernel
theorem dX4_findLacksIn_47 : decode cX4_findLacksIn 47 = .ok (.iconst 0, 1) := by decide +kernel
theorem dX4_findLacksIn_48 : decode cX4_findLacksIn 48 = .ok (.istore 6, 2) := by decide +kernel
theorem dX4_findLacksIn_50 : decode cX4_findLacksIn 50 = .ok (.iload 6, 2) := by decide +kernel
theorem dX4_findLacksIn_52 : decode cX4_findLacksIn 52 = .ok (.iload 4, 2) := by decide +kernel
theorem dX4_findLacksIn_54 : decode cX4_findLacksIn 54 = .ok (.if_icmp .ge 50, 3) := by decide +kernel
theorem dX4_findLacksIn_57 : decode cX4_findLacksIn 57 = .ok (.aload_n 0, 1) := by decide +kernel
theorem dX4_findLacksIn_58 : decode cX4_findLacksIn 58 = .ok (.getfield 50, 3) := by decide +kernel
theorem dX4_findLacksIn_61 : decode cX4_findLacksIn 61 = .ok (.iload 6, 2) := by decide +kernel
theorem dX4_findLacksIn_63 : decode cX4_findLacksIn 63 = .ok (.iaload, 1) := by decide +kernel
theorem dX4_findLacksIn_64 : decode cX4_findLacksIn 64 = .ok (.iload 5, 2) := by decide +kernel
theorem dX4_findLacksIn_66 : decode cX4_findLacksIn 66 = .ok (.iadd, 1) := by decide +kernel
theorem dX4_findLacksIn_67 : decode cX4_findLacksIn 67 = .ok (.istore 7, 2) := by decide +kernel
theorem dX4_findLacksIn_69 : decode cX4_findLacksIn 69 = .ok (.aload_n 0, 1) := by decide +kernel
theorem dX4_findLacksIn_70 : decode cX4_findLacksIn 70 = .ok (.getfield 50, 3) := by decide +kernel
theorem dX4_findLacksIn_73 : decode cX4_findLacksIn 73 = .ok (.iload 6, 2) := by decide +kernel
theorem dX4_findLacksIn_75 : decode cX4_findLacksIn 75 = .ok (.iload 4, 2) := by decide +kernel
theorem dX4_findLacksIn_77 : decode cX4_findLacksIn 77 = .ok (.iadd, 1) := by decide +kernel
theorem dX4_findLacksIn_78 : decode cX4_findLacksIn 78 = .ok (.iload 7, 2) := by decide +kernel
theorem dX4_findLacksIn_80 : decode cX4_findLacksIn 80 = .ok (.iastore, 1) := by decide +kernel
theorem dX4_findLacksIn_81 : decode cX4_findLacksIn 81 = .ok (.iload 7, 2) := by decide +kernel
theorem dX4_findLacksIn_83 : decode cX4_findLacksIn 83 = .ok (.iload_n 2, 1) := by decide +kernel
theorem dX4_findLacksIn_84 : decode cX4_findLacksIn 84 = .ok (.if_icmp .ge 14, 3) := by decide +kernel
theorem dX4_findLacksIn_87 : decode cX4_findLacksIn 87 = .ok (.aload_n 0, 1) := by decide +kernel
theorem dX4_findLacksIn_88 : decode cX4_findLacksIn 88 = .ok (.getfield 46, 3) := by decide +kernel
theorem dX4_findLacksIn_91 : decode cX4_findLacksIn 91 = .ok (.iload 6, 2) := by decide +kernel
theorem dX4_findLacksIn_93 : decode cX4_findLacksIn 93 = .ok (.iload 4, 2) := by decide +kernel
theorem dX4_findLacksIn_95 : decode cX4_findLacksIn 95 = .ok (.iadd, 1) := by decide +kernel
theorem dX4_findLacksIn_96 : decode cX4_findLacksIn 96 = .ok (.iconst 1, 1) := by decide +kernel
theorem dX4_findLacksIn_97 : decode cX4_findLacksIn 97 = .ok (.bastore, 1) := by decide +kernel
theorem dX4_findLacksIn_98 : decode cX4_findLacksIn 98 = .ok (.iinc 6 1, 3) := by decide +kernel
theorem dX4_findLacksIn_101 : decode cX4_findLacksIn 101 = .ok (.goto (-51), 3) := by decide +kernel
theorem dX4_findLacksIn_104 : decode cX4_findLacksIn 104 = .ok (.iinc 3 1, 3) := by decide +kernel
theorem dX4_findLacksIn_107 : decode cX4_findLacksIn 107 = .ok (.goto (-93), 3) := by decide +kernel
theorem dX4_findLacksIn_110 : decode cX4_findLacksIn 110 = .ok (.return_, 1) := by decide +kernel
theorem dX4_init_0 : decode cX4_init 0 = .ok (.aload_n 0, 1) := by decide +kernel
theorem dX4_init_1 : decode cX4_init 1 = .ok (.invokespecial 3, 3) := by decide +kernel
theorem dX4_init_4 : decode cX4_init 4 = .ok (.aload_n 0, 1) := by decide +kernel
theorem dX4_init_5 : decode cX4_init 5 = .ok (.bipush 8, 2) := by decide +kernel
theorem dX4_init_7 : decode cX4_init 7 = .ok (.newarray .int, 2) := by decide +kernel
theorem dX4_init_9 : decode cX4_init 9 = .ok (.putfield 9, 3) := by decide +kernel
theorem dX4_init_12 : decode cX4_init 12 = .ok (.aload_n 0, 1) := by decide +kernel
theorem dX4_init_13 : decode cX4_init 13 = .ok (.bipush 8, 2) := by decide +kernel
theorem dX4_init_15 : decode cX4_init 15 = .ok (.newarray .int, 2) := by decide +kernel
theorem dX4_init_17 : decode cX4_init 17 = .ok (.putfield 15, 3) := by decide +kernel
theorem dX4_init_20 : decode cX4_init 20 = .ok (.aload_n 0, 1) := by decide +kernel
theorem dX4_init_21 : decode cX4_init 21 = .ok (.bipush 8, 2) := by decide +kernel
theorem dX4_init_23 : decode cX4_init 23 = .ok (.newarray .int, 2) := by decide +kernel
theorem dX4_init_25 : decode cX4_init 25 = .ok (.putfield 18, 3) := by decide +kernel
theorem dX4_init_28 : decode cX4_init 28 = .ok (.aload_n 0, 1) := by decide +kernel
theorem dX4_init_29 : decode cX4_init 29 = .ok (.bipush 8, 2) := by decide +kernel
theorem dX4_init_31 : decode cX4_init 31 = .ok (.newarray .int, 2) := by decide +kernel
theorem dX4_init_33 : decode cX4_init 33 = .ok (.putfield 21, 3) := by decide +kernel
theorem dX4_init_36 : decode cX4_init 36 = .ok (.aload_n 0, 1) := by decide +kernel
theorem dX4_init_37 : decode cX4_init 37 = .ok (.bipush 64, 2) := by decide +kernel
theorem dX4_init_39 : decode cX4_init 39 = .ok (.newarray .long, 2) := by decide +kernel
theorem dX4_init_41 : decode cX4_init 41 = .ok (.putfield 24, 3) := by decide +kernel
theorem dX4_init_44 : decode cX4_init 44 = .ok (.aload_n 0, 1) := by decide +kernel
theorem dX4_init_45 : decode cX4_init 45 = .ok (.bipush 8, 2) := by decide +kernel
theorem dX4_init_47 : decode cX4_init 47 = .ok (.newarray .long, 2) := by decide +kernel
theorem dX4_init_49 : decode cX4_init 49 = .ok (.putfield 28, 3) := by decide +kernel
theorem dX4_init_52 : decode cX4_init 52 = .ok (.aload_n 0, 1) := by decide +kernel
theorem dX4_init_53 : decode cX4_init 53 = .ok (.sipush 256, 3) := by decide +kernel
theorem dX4_init_56 : decode cX4_init 56 = .ok (.newarray .long, 2) := by decide +kernel
theorem dX4_init_58 : decode cX4_init 58 = .ok (.putfield 31, 3) := by decide +kernel
theorem dX4_init_61 : decode cX4_init 61 = .ok (.aload_n 0, 1) := by decide +kernel
theorem dX4_init_62 : decode cX4_init 62 = .ok (.sipush 256, 3) := by decide +kernel
theorem dX4_init_65 : decode cX4_init 65 = .ok (.newarray .long, 2) := by decide +kernel
theorem dX4_init_67 : decode cX4_init 67 = .ok (.putfield 34, 3) := by decide +kernel
theorem dX4_init_70 : decode cX4_init 70 = .ok (.aload_n 0, 1) := by decide +kernel
theorem dX4_init_71 : decode cX4_init 71 = .ok (.sipush 2304, 3) := by decide +kernel
theorem dX4_init_74 : decode cX4_init 74 = .ok (.newarray .int, 2) := by decide +kernel
theorem dX4_init_76 : decode cX4_init 76 = .ok (.putfield 37, 3) := by decide +kernel
theorem dX4_init_79 : decode cX4_init 79 = .ok (.aload_n 0, 1) := by decide +kernel
theorem dX4_init_80 : decode cX4_init 80 = .ok (.sipush 256, 3) := by decide +kernel
theorem dX4_init_83 : decode cX4_init 83 = .ok (.newarray .int, 2) := by decide +kernel
theorem dX4_init_85 : decode cX4_init 85 = .ok (.putfield 40, 3) := by decide +kernel
theorem dX4_init_88 : decode cX4_init 88 = .ok (.aload_n 0, 1) := by decide +kernel
theorem dX4_init_89 : decode cX4_init 89 = .ok (.bipush 64, 2) := by decide +kernel
theorem dX4_init_91 : decode cX4_init 91 = .ok (.newarray .int, 2) := by decide +kernel
theorem dX4_init_93 : decode cX4_init 93 = .ok (.putfield 43, 3) := by decide +kernel
theorem dX4_init_96 : decode cX4_init 96 = .ok (.aload_n 0, 1) := by decide +kernel
theorem dX4_init_97 : decode cX4_init 97 = .ok (.sipush 256, 3) := by decide +kernel
theorem dX4_init_100 : decode cX4_init 100 = .ok (.newarray .boolean, 2) := by decide +kernel
theorem dX4_init_102 : decode cX4_init 102 = .ok (.putfield 46, 3) := by decide +kernel
theorem dX4_init_105 : decode cX4_init 105 = .ok (.aload_n 0, 1) := by decide +kernel
theorem dX4_init_106 : decode cX4_init 106 = .ok (.sipush 256, 3) := by decide +kernel
theorem dX4_init_109 : decode cX4_init 109 = .ok (.newarray .int, 2) := by decide +kernel
theorem dX4_init_111 : decode cX4_init 111 = .ok (.putfield 50, 3) := by decide +kernel
theorem dX4_init_114 : decode cX4_init 114 = .ok (.return_, 1) := by decide +kernel
theorem dX4_lacks_0 : decode cX4_lacks 0 = .ok (.aload_n 0, 1) := by decide +kernel
theorem dX4_lacks_1 : decode cX4_lacks 1 = .ok (.getfield 46, 3) := by decide +kernel
theorem dX4_lacks_4 : decode cX4_lacks 4 = .ok (.iload_n 1, 1) := by decide +kernel
theorem dX4_lacks_5 : decode cX4_lacks 5 = .ok (.sipush 255, 3) := by decide +kernel
theorem dX4_lacks_8 : decode cX4_lacks 8 = .ok (.iand, 1) := by decide +kernel
theorem dX4_lacks_9 : decode cX4_lacks 9 = .ok (.baload, 1) := by decide +kernel
theorem dX4_lacks_10 : decode cX4_lacks 10 = .ok (.ireturn, 1) := by decide +kernel
theorem dX4_least_0 : decode cX4_least 0 = .ok (.aload_n 0, 1) := by decide +kernel
theorem dX4_least_1 : decode cX4_least 1 = .ok (.getfield 34, 3) := by decide +kernel
theorem dX4_least_4 : decode cX4_least 4 = .ok (.ldc2_w 80, 3) := by decide +kernel
theorem dX4_least_7 : decode cX4_least 7 = .ok (.invokestatic 69, 3) := by decide +kernel
theorem dX4_least_10 : decode cX4_least 10 = .ok (.aload_n 0, 1) := by decide +kernel
theorem dX4_least_11 : decode cX4_least 11 = .ok (.getfield 34, 3) := by decide +kernel
theorem dX4_least_14 : decode cX4_least 14 = .ok (.iconst 0, 1) := by decide +kernel
theorem dX4_least_15 : decode cX4_least 15 = .ok (.lconst 0, 1) := by decide +kernel
theorem dX4_least_16 : decode cX4_least 16 = .ok (.lastore, 1) := by decide +kernel
theorem dX4_least_17 : decode cX4_least 17 = .ok (.iconst 0, 1) := by decide +kernel
theorem dX4_least_18 : decode cX4_least 18 = .ok (.istore_n 1, 1) := by decide +kernel
theorem dX4_least_19 : decode cX4_least 19 = .ok (.iload_n 1, 1) := by decide +kernel
theorem dX4_least_20 : decode cX4_least 20 = .ok (.bipush 8, 2) := by decide +kernel
theorem dX4_least_22 : decode cX4_least 22 = .ok (.if_icmp .ge 44, 3) := by decide +kernel
theorem dX4_least_25 : decode cX4_least 25 = .ok (.aload_n 0, 1) := by decide +kernel
theorem dX4_least_26 : decode cX4_least 26 = .ok (.aload_n 0, 1) := by decide +kernel
theorem dX4_least_27 : decode cX4_least 27 = .ok (.getfield 18, 3) := by decide +kernel
theorem dX4_least_30 : decode cX4_least 30 = .ok (.iload_n 1, 1) := by decide +kernel
theorem dX4_least_31 : decode cX4_least 31 = .ok (.iaload, 1) := by decide +kernel
theorem dX4_least_32 : decode cX4_least 32 = .ok (.invokevirtual 82, 3) := by decide +kernel
theorem dX4_least_35 : decode cX4_least 35 = .ok (.aload_n 0, 1) := by decide +kernel
theorem dX4_least_36 : decode cX4_least 36 = .ok (.aload_n 0, 1) := by decide +kernel
theorem dX4_least_37 : decode cX4_least 37 = .ok (.getfield 9, 3) := by decide +kernel
theorem dX4_least_40 : decode cX4_least 40 = .ok (.aload_n 0, 1) := by decide +kernel
theorem dX4_least_41 : decode cX4_least 41 = .ok (.getfield 18, 3) := by decide +kernel
theorem dX4_least_44 : decode cX4_least 44 = .ok (.iload_n 1, 1) := by decide +kernel
theorem dX4_least_45 : decode cX4_least 45 = .ok (.iaload, 1) := by decide +kernel
theorem dX4_least_46 : decode cX4_least 46 = .ok (.iaload, 1) := by decide +kernel
theorem dX4_least_47 : decode cX4_least 47 = .ok (.invokevirtual 86, 3) := by decide +kernel
theorem dX4_least_50 : decode cX4_least 50 = .ok (.aload_n 0, 1) := by decide +kernel
theorem dX4_least_51 : decode cX4_least 51 = .ok (.aload_n 0, 1) := by decide +kernel
theorem dX4_least_52 : decode cX4_least 52 = .ok (.getfield 21, 3) := by decide +kernel
theorem dX4_least_55 : decode cX4_least 55 = .ok (.iload_n 1, 1) := by decide +kernel
theorem dX4_least_56 : decode cX4_least 56 = .ok (.iaload, 1) := by decide +kernel
theorem dX4_least_57 : decode cX4_least 57 = .ok (.invokevirtual 89, 3) := by decide +kernel
theorem dX4_least_60 : decode cX4_least 60 = .ok (.iinc 1 1, 3) := by decide +kernel
theorem dX4_least_63 : decode cX4_least 63 = .ok (.goto (-44), 3) := by decide +kernel
theorem dX4_least_66 : decode cX4_least 66 = .ok (.aload_n 0, 1) := by decide +kernel
theorem dX4_least_67 : decode cX4_least 67 = .ok (.getfield 34, 3) := by decide +kernel
theorem dX4_least_70 : decode cX4_least 70 = .ok (.aload_n 0, 1) := by decide +kernel
theorem dX4_least_71 : decode cX4_least 71 = .ok (.getfield 53, 3) := by decide +kernel
theorem dX4_least_74 : decode cX4_least 74 = .ok (.laload, 1) := by decide +kernel
theorem dX4_least_75 : decode cX4_least 75 = .ok (.lreturn, 1) := by decide +kernel
theorem dX4_leastMost_0 : decode cX4_leastMost 0 = .ok (.aload_n 0, 1) := by decide +kernel
theorem dX4_leastMost_1 : decode cX4_leastMost 1 = .ok (.getfield 34, 3) := by decide +kernel
theorem dX4_leastMost_4 : decode cX4_leastMost 4 = .ok (.ldc2_w 80, 3) := by decide +kernel
theorem dX4_leastMost_7 : decode cX4_leastMost 7 = .ok (.invokestatic 69, 3) := by decide +kernel
theorem dX4_leastMost_10 : decode cX4_leastMost 10 = .ok (.aload_n 0, 1) := by decide +kernel
theorem dX4_leastMost_11 : decode cX4_leastMost 11 = .ok (.getfield 34, 3) := by decide +kernel
theorem dX4_leastMost_14 : decode cX4_leastMost 14 = .ok (.iconst 0, 1) := by decide +kernel
theorem dX4_leastMost_15 : decode cX4_leastMost 15 = .ok (.lconst 0, 1) := by decide +kernel
theorem dX4_leastMost_16 : decode cX4_leastMost 16 = .ok (.lastore, 1) := by decide +kernel
theorem dX4_leastMost_17 : decode cX4_leastMost 17 = .ok (.iconst 0, 1) := by decide +kernel
theorem dX4_leastMost_18 : decode cX4_leastMost 18 = .ok (.istore_n 1, 1) := by decide +kernel
theorem dX4_leastMost_19 : decode cX4_leastMost 19 = .ok (.iload_n 1, 1) := by decide +kernel
theorem dX4_leastMost_20 : decode cX4_leastMost 20 = .ok (.bipush 8, 2) := by decide +kernel
theorem dX4_leastMost_22 : decode cX4_leastMost 22 = .ok (.if_icmp .ge 24, 3) := by decide +kernel
theorem dX4_leastMost_25 : decode cX4_leastMost 25 = .ok (.aload_n 0, 1) := by decide +kernel
theorem dX4_leastMost_26 : decode cX4_leastMost 26 = .ok (.iload_n 1, 1) := by decide +kernel
theorem dX4_leastMost_27 : decode cX4_leastMost 27 = .ok (.invokevirtual 82, 3) := by decide +kernel
theorem dX4_leastMost_30 : decode cX4_leastMost 30 = .ok (.aload_n 0, 1) := by decide +kernel
theorem dX4_leastMost_31 : decode cX4_leastMost 31 = .ok (.aload_n 0, 1) := by decide +kernel
theorem dX4_leastMost_32 : decode cX4_leastMost 32 = .ok (.getfield 9, 3) := by decide +kernel
theorem dX4_leastMost_35 : decode cX4_leastMost 35 = .ok (.iload_n 1, 1) := by decide +kernel
theorem dX4_leastMost_36 : decode cX4_leastMost 36 = .ok (.iaload, 1) := by decide +kernel
theorem dX4_leastMost_37 : decode cX4_leastMost 37 = .ok (.invokevirtual 92, 3) := by decide +kernel
theorem dX4_leastMost_40 : decode cX4_leastMost 40 = .ok (.iinc 1 1, 3) := by decide +kernel
theorem dX4_leastMost_43 : decode cX4_leastMost 43 = .ok (.goto (-24), 3) := by decide +kernel
theorem dX4_leastMost_46 : decode cX4_leastMost 46 = .ok (.aload_n 0, 1) := by decide +kernel
theorem dX4_leastMost_47 : decode cX4_leastMost 47 = .ok (.getfield 34, 3) := by decide +kernel
theorem dX4_leastMost_50 : decode cX4_leastMost 50 = .ok (.aload_n 0, 1) := by decide +kernel
theorem dX4_leastMost_51 : decode cX4_leastMost 51 = .ok (.getfield 53, 3) := by decide +kernel
theorem dX4_leastMost_54 : decode cX4_leastMost 54 = .ok (.laload, 1) := by decide +kernel
theorem dX4_leastMost_55 : decode cX4_leastMost 55 = .ok (.lreturn, 1) := by decide +kernel
theorem dX4_open_0 : decode cX4_open 0 = .ok (.aload_n 0, 1) := by decide +kernel
theorem dX4_open_1 : decode cX4_open 1 = .ok (.iconst 1, 1) := by decide +kernel
theorem dX4_open_2 : decode cX4_open 2 = .ok (.iload_n 1, 1) := by decide +kernel
theorem dX4_open_3 : decode cX4_open 3 = .ok (.ishl, 1) := by decide +kernel
theorem dX4_open_4 : decode cX4_open 4 = .ok (.iconst 1, 1) := by decide +kernel
theorem dX4_open_5 : decode cX4_open 5 = .ok (.isub, 1) := by decide +kernel
theorem dX4_open_6 : decode cX4_open 6 = .ok (.putfield 53, 3) := by decide +kernel
theorem dX4_open_9 : decode cX4_open 9 = .ok (.aload_n 0, 1) := by decide +kernel
theorem dX4_open_10 : decode cX4_open 10 = .ok (.ldc2_w 57, 3) := by decide +kernel
theorem dX4_open_13 : decode cX4_open 13 = .ok (.putfield 59, 3) := by decide +kernel
theorem dX4_open_16 : decode cX4_open 16 = .ok (.aload_n 0, 1) := by decide +kernel
theorem dX4_open_17 : decode cX4_open 17 = .ok (.getfield 9, 3) := by decide +kernel
theorem dX4_open_20 : decode cX4_open 20 = .ok (.iconst 0, 1) := by decide +kernel
theorem dX4_open_21 : decode cX4_open 21 = .ok (.invokestatic 63, 3) := by decide +kernel
theorem dX4_open_24 : decode cX4_open 24 = .ok (.aload_n 0, 1) := by decide +kernel
theorem dX4_open_25 : decode cX4_open 25 = .ok (.getfield 15, 3) := by decide +kernel
theorem dX4_open_28 : decode cX4_open 28 = .ok (.iconst 0, 1) := by decide +kernel
theorem dX4_open_29 : decode cX4_open 29 = .ok (.invokestatic 63, 3) := by decide +kernel
theorem dX4_open_32 : decode cX4_open 32 = .ok (.aload_n 0, 1) := by decide +kernel
theorem dX4_open_33 : decode cX4_open 33 = .ok (.getfield 21, 3) := by decide +kernel
theorem dX4_open_36 : decode cX4_open 36 = .ok (.iconst 0, 1) := by decide +kernel
theorem dX4_open_37 : decode cX4_open 37 = .ok (.invokestatic 63, 3) := by decide +kernel
theorem dX4_open_40 : decode cX4_open 40 = .ok (.aload_n 0, 1) := by decide +kernel
theorem dX4_open_41 : decode cX4_open 41 = .ok (.getfield 28, 3) := by decide +kernel
theorem dX4_open_44 : decode cX4_open 44 = .ok (.lconst 0, 1) := by decide +kernel
theorem dX4_open_45 : decode cX4_open 45 = .ok (.invokestatic 69, 3) := by decide +kernel
theorem dX4_open_48 : decode cX4_open 48 = .ok (.aload_n 0, 1) := by decide +kernel
theorem dX4_open_49 : decode cX4_open 49 = .ok (.getfield 24, 3) := by decide +kernel
theorem dX4_open_52 : decode cX4_open 52 = .ok (.lconst 0, 1) := by decide +kernel
theorem dX4_open_53 : decode cX4_open 53 = .ok (.invokestatic 69, 3) := by decide +kernel
theorem dX4_open_56 : decode cX4_open 56 = .ok (.iconst 0, 1) := by decide +kernel
theorem dX4_open_57 : decode cX4_open 57 = .ok (.istore_n 2, 1) := by decide +kernel
theorem dX4_open_58 : decode cX4_open 58 = .ok (.iload_n 2, 1) := by decide +kernel
theorem dX4_open_59 : decode cX4_open 59 = .ok (.bipush 8, 2) := by decide +kernel
theorem dX4_open_61 : decode cX4_open 61 = .ok (.if_icmp .ge 16, 3) := by decide +kernel
theorem dX4_open_64 : decode cX4_open 64 = .ok (.aload_n 0, 1) := by decide +kernel
theorem dX4_open_65 : decode cX4_open 65 = .ok (.getfield 18, 3) := by decide +kernel
theorem dX4_open_68 : decode cX4_open 68 = .ok (.iload_n 2, 1) := by decide +kernel
theorem dX4_open_69 : decode cX4_open 69 = .ok (.iload_n 2, 1) := by decide +kernel
theorem dX4_open_70 : decode cX4_open 70 = .ok (.iastore, 1) := by decide +kernel
theorem dX4_open_71 : decode cX4_open 71 = .ok (.iinc 2 1, 3) := by decide +kernel
theorem dX4_open_74 : decode cX4_open 74 = .ok (.goto (-16), 3) := by decide +kernel
theorem dX4_open_77 : decode cX4_open 77 = .ok (.return_, 1) := by decide +kernel
theorem dX4_orderByWidth_0 : decode cX4_orderByWidth 0 = .ok (.iconst 1, 1) := by decide +kernel
theorem dX4_orderByWidth_1 : decode cX4_orderByWidth 1 = .ok (.istore_n 3, 1) := by decide +kernel
theorem dX4_orderByWidth_2 : decode cX4_orderByWidth 2 = .ok (.iload_n 3, 1) := by decide +kernel
theorem dX4_orderByWidth_3 : decode cX4_orderByWidth 3 = .ok (.iload_n 2, 1) := by decide +kernel
theorem dX4_orderByWidth_4 : decode cX4_orderByWidth 4 = .ok (.if_icmp .ge 82, 3) := by decide +kernel
theorem dX4_orderByWidth_86 : decode cX4_orderByWidth 86 = .ok (.iconst 1, 1) := by decide +kernel
theorem dX4_orderByWidth_87 : decode cX4_orderByWidth 87 = .ok (.istore_n 3, 1) := by decide +kernel
theorem dX4_orderByWidth_88 : decode cX4_orderByWidth 88 = .ok (.iload_n 3, 1) := by decide +kernel
theorem dX4_orderByWidth_89 : decode cX4_orderByWidth 89 = .ok (.iload_n 2, 1) := by decide +kernel
theorem dX4_orderByWidth_90 : decode cX4_orderByWidth 90 = .ok (.if_icmp .ge 36, 3) := by decide +kernel
theorem dX4_orderByWidth_126 : decode cX4_orderByWidth 126 = .ok (.return_, 1) := by decide +kernel
theorem dX4_ways_0 : decode cX4_ways 0 = .ok (.iconst 0, 1) := by decide +kernel
theorem dX4_ways_1 : decode cX4_ways 1 = .ok (.istore_n 1, 1) := by decide +kernel
theorem dX4_ways_2 : decode cX4_ways 2 = .ok (.iload_n 1, 1) := by decide +kernel
theorem dX4_ways_3 : decode cX4_ways 3 = .ok (.sipush 256, 3) := by decide +kernel
theorem dX4_ways_6 : decode cX4_ways 6 = .ok (.if_icmp .ge 24, 3) := by decide +kernel
theorem dX4_ways_9 : decode cX4_ways 9 = .ok (.aload_n 0, 1) := by decide +kernel
theorem dX4_ways_10 : decode cX4_ways 10 = .ok (.getfield 37, 3) := by decide +kernel
theorem dX4_ways_13 : decode cX4_ways 13 = .ok (.iload_n 1, 1) := by decide +kernel
theorem dX4_ways_14 : decode cX4_ways 14 = .ok (.iload_n 1, 1) := by decide +kernel
theorem dX4_ways_15 : decode cX4_ways 15 = .ok (.ifCond .ne 7, 3) := by decide +kernel
theorem dX4_ways_18 : decode cX4_ways 18 = .ok (.iconst 1, 1) := by decide +kernel
theorem dX4_ways_19 : decode cX4_ways 19 = .ok (.goto 4, 3) := by decide +kernel
theorem dX4_ways_22 : decode cX4_ways 22 = .ok (.iconst 0, 1) := by decide +kernel
theorem dX4_ways_23 : decode cX4_ways 23 = .ok (.iastore, 1) := by decide +kernel
theorem dX4_ways_24 : decode cX4_ways 24 = .ok (.iinc 1 1, 3) := by decide +kernel
theorem dX4_ways_27 : decode cX4_ways 27 = .ok (.goto (-25), 3) := by decide +kernel
theorem dX4_ways_30 : decode cX4_ways 30 = .ok (.iconst 0, 1) := by decide +kernel
theorem dX4_ways_31 : decode cX4_ways 31 = .ok (.istore_n 1, 1) := by decide +kernel
theorem dX4_ways_32 : decode cX4_ways 32 = .ok (.iload_n 1, 1) := by decide +kernel
theorem dX4_ways_33 : decode cX4_ways 33 = .ok (.bipush 8, 2) := by decide +kernel
theorem dX4_ways_35 : decode cX4_ways 35 = .ok (.if_icmp .ge 30, 3) := by decide +kernel
theorem dX4_ways_38 : decode cX4_ways 38 = .ok (.aload_n 0, 1) := by decide +kernel
theorem dX4_ways_39 : decode cX4_ways 39 = .ok (.aload_n 0, 1) := by decide +kernel
theorem dX4_ways_40 : decode cX4_ways 40 = .ok (.getfield 37, 3) := by decide +kernel
theorem dX4_ways_43 : decode cX4_ways 43 = .ok (.iload_n 1, 1) := by decide +kernel
theorem dX4_ways_44 : decode cX4_ways 44 = .ok (.sipush 256, 3) := by decide +kernel
theorem dX4_ways_47 : decode cX4_ways 47 = .ok (.imul, 1) := by decide +kernel
theorem dX4_ways_48 : decode cX4_ways 48 = .ok (.iload_n 1, 1) := by decide +kernel
theorem dX4_ways_49 : decode cX4_ways 49 = .ok (.iconst 1, 1) := by decide +kernel
theorem dX4_ways_50 : decode cX4_ways 50 = .ok (.iadd, 1) := by decide +kernel
theorem dX4_ways_51 : decode cX4_ways 51 = .ok (.sipush 256, 3) := by decide +kernel
theorem dX4_ways_54 : decode cX4_ways 54 = .ok (.imul, 1) := by decide +kernel
theorem dX4_ways_55 : decode cX4_ways 55 = .ok (.iload_n 1, 1) := by decide +kernel
theorem dX4_ways_56 : decode cX4_ways 56 = .ok (.invokevirtual 104, 3) := by decide +kernel
theorem dX4_ways_59 : decode cX4_ways 59 = .ok (.iinc 1 1, 3) := by decide +kernel
theorem dX4_ways_62 : decode cX4_ways 62 = .ok (.goto (-30), 3) := by decide +kernel
theorem dX4_ways_65 : decode cX4_ways 65 = .ok (.aload_n 0, 1) := by decide +kernel
theorem dX4_ways_66 : decode cX4_ways 66 = .ok (.getfield 37, 3) := by decide +kernel
theorem dX4_ways_69 : decode cX4_ways 69 = .ok (.sipush 2048, 3) := by decide +kernel
theorem dX4_ways_72 : decode cX4_ways 72 = .ok (.aload_n 0, 1) := by decide +kernel
theorem dX4_ways_73 : decode cX4_ways 73 = .ok (.getfield 53, 3) := by decide +kernel
theorem dX4_ways_76 : decode cX4_ways 76 = .ok (.iadd, 1) := by decide +kernel
theorem dX4_ways_77 : decode cX4_ways 77 = .ok (.iaload, 1) := by decide +kernel
theorem dX4_ways_78 : decode cX4_ways 78 = .ok (.ireturn, 1) := by decide +kernel
theorem dX4_weigh_0 : decode cX4_weigh 0 = .ok (.aload_n 0, 1) := by decide +kernel
theorem dX4_weigh_1 : decode cX4_weigh 1 = .ok (.getfield 31, 3) := by decide +kernel
theorem dX4_weigh_4 : decode cX4_weigh 4 = .ok (.iconst 0, 1) := by decide +kernel
theorem dX4_weigh_5 : decode cX4_weigh 5 = .ok (.lconst 0, 1) := by decide +kernel
theorem dX4_weigh_6 : decode cX4_weigh 6 = .ok (.lastore, 1) := by decide +kernel
theorem dX4_weigh_7 : decode cX4_weigh 7 = .ok (.iconst 1, 1) := by decide +kernel
theorem dX4_weigh_8 : decode cX4_weigh 8 = .ok (.istore_n 2, 1) := by decide +kernel
theorem dX4_weigh_9 : decode cX4_weigh 9 = .ok (.iload_n 2, 1) := by decide +kernel
theorem dX4_weigh_10 : decode cX4_weigh 10 = .ok (.aload_n 0, 1) := by decide +kernel
theorem dX4_weigh_11 : decode cX4_weigh 11 = .ok (.getfield 53, 3) := by decide +kernel
theorem dX4_weigh_14 : decode cX4_weigh 14 = .ok (.if_icmp .gt 110, 3) := by decide +kernel
theorem dX4_weigh_17 : decode cX4_weigh 17 = .ok (.iload_n 2, 1) := by decide +kernel
theorem dX4_weigh_18 : decode cX4_weigh 18 = .ok (.aload_n 0, 1) := by decide +kernel
theorem dX4_weigh_19 : decode cX4_weigh 19 = .ok (.getfield 9, 3) := by decide +kernel
theorem dX4_weigh_22 : decode cX4_weigh 22 = .ok (.iload_n 1, 1) := by decide +kernel
theorem dX4_weigh_23 : decode cX4_weigh 23 = .ok (.iaload, 1) := by decide +kernel
theorem dX4_weigh_24 : decode cX4_weigh 24 = .ok (.iconst (-1), 1) := by decide +kernel
theorem dX4_weigh_25 : decode cX4_weigh 25 = .ok (.ixor, 1) := by decide +kernel
theorem dX4_weigh_26 : decode cX4_weigh 26 = .ok (.iand, 1) := by decide +kernel
theorem dX4_weigh_27 : decode cX4_weigh 27 = .ok (.ifCond .eq 6, 3) := by decide +kernel
theorem dX4_weigh_30 : decode cX4_weigh 30 = .ok (.goto 88, 3) := by decide +kernel
theorem dX4_weigh_118 : decode cX4_weigh 118 = .ok (.iinc 2 1, 3) := by decide +kernel
theorem dX4_weigh_121 : decode cX4_weigh 121 = .ok (.goto (-112), 3) := by decide +kernel
theorem dX4_weigh_124 : decode cX4_weigh 124 = .ok (.return_, 1) := by decide +kernel
theorem dX5_copy_0 : decode cX5_copy 0 = .ok (.aload_n 1, 1) := by decide +kernel
theorem dX5_copy_1 : decode cX5_copy 1 = .ok (.getfield 9, 3) := by decide +kernel
theorem dX5_copy_4 : decode cX5_copy 4 = .ok (.iconst 0, 1) := by decide +kernel
theorem dX5_copy_5 : decode cX5_copy 5 = .ok (.aload_n 0, 1) := by decide +kernel
theorem dX5_copy_6 : decode cX5_copy 6 = .ok (.getfield 9, 3) := by decide +kernel
theorem dX5_copy_9 : decode cX5_copy 9 = .ok (.iconst 0, 1) := by decide +kernel
theorem dX5_copy_10 : decode cX5_copy 10 = .ok (.bipush 8, 2) := by decide +kernel
theorem dX5_copy_12 : decode cX5_copy 12 = .ok (.invokestatic 24, 3) := by decide +kernel
theorem dX5_copy_15 : decode cX5_copy 15 = .ok (.aload_n 1, 1) := by decide +kernel
theorem dX5_copy_16 : decode cX5_copy 16 = .ok (.getfield 15, 3) := by decide +kernel
theorem dX5_copy_19 : decode cX5_copy 19 = .ok (.iconst 0, 1) := by decide +kernel
theorem dX5_copy_20 : decode cX5_copy 20 = .ok (.aload_n 0, 1) := by decide +kernel
theorem dX5_copy_21 : decode cX5_copy 21 = .ok (.getfield 15, 3) := by decide +kernel
theorem dX5_copy_24 : decode cX5_copy 24 = .ok (.iconst 0, 1) := by decide +kernel
theorem dX5_copy_25 : decode cX5_copy 25 = .ok (.bipush 8, 2) := by decide +kernel
theorem dX5_copy_27 : decode cX5_copy 27 = .ok (.invokestatic 24, 3) := by decide +kernel
theorem dX5_copy_30 : decode cX5_copy 30 = .ok (.aload_n 0, 1) := by decide +kernel
theorem dX5_copy_31 : decode cX5_copy 31 = .ok (.aload_n 1, 1) := by decide +kernel
theorem dX5_copy_32 : decode cX5_copy 32 = .ok (.getfield 30, 3) := by decide +kernel
theorem dX5_copy_35 : decode cX5_copy 35 = .ok (.putfield 30, 3) := by decide +kernel
theorem dX5_copy_38 : decode cX5_copy 38 = .ok (.aload_n 0, 1) := by decide +kernel
theorem dX5_copy_39 : decode cX5_copy 39 = .ok (.aload_n 1, 1) := by decide +kernel
theorem dX5_copy_40 : decode cX5_copy 40 = .ok (.getfield 34, 3) := by decide +kernel
theorem dX5_copy_43 : decode cX5_copy 43 = .ok (.putfield 34, 3) := by decide +kernel
theorem dX5_copy_46 : decode cX5_copy 46 = .ok (.aload_n 0, 1) := by decide +kernel
theorem dX5_copy_47 : decode cX5_copy 47 = .ok (.aload_n 1, 1) := by decide +kernel
theorem dX5_copy_48 : decode cX5_copy 48 = .ok (.getfield 37, 3) := by decide +kernel
theorem dX5_copy_51 : decode cX5_copy 51 = .ok (.putfield 37, 3) := by decide +kernel
theorem dX5_copy_54 : decode cX5_copy 54 = .ok (.aload_n 0, 1) := by decide +kernel
theorem dX5_copy_55 : decode cX5_copy 55 = .ok (.aload_n 1, 1) := by decide +kernel
theorem dX5_copy_56 : decode cX5_copy 56 = .ok (.getfield 40, 3) := by decide +kernel
theorem dX5_copy_59 : decode cX5_copy 59 = .ok (.putfield 40, 3) := by decide +kernel
theorem dX5_copy_62 : decode cX5_copy 62 = .ok (.return_, 1) := by decide +kernel
theorem dX5_init_0 : decode cX5_init 0 = .ok (.aload_n 0, 1) := by decide +kernel
theorem dX5_init_1 : decode cX5_init 1 = .ok (.invokespecial 3, 3) := by decide +kernel
theorem dX5_init_4 : decode cX5_init 4 = .ok (.aload_n 0, 1) := by decide +kernel
theorem dX5_init_5 : decode cX5_init 5 = .ok (.bipush 8, 2) := by decide +kernel
theorem dX5_init_7 : decode cX5_init 7 = .ok (.newarray .int, 2) := by decide +kernel
theorem dX5_init_9 : decode cX5_init 9 = .ok (.putfield 9, 3) := by decide +kernel
theorem dX5_init_12 : decode cX5_init 12 = .ok (.aload_n 0, 1) := by decide +kernel
theorem dX5_init_13 : decode cX5_init 13 = .ok (.bipush 8, 2) := by decide +kernel
theorem dX5_init_15 : decode cX5_init 15 = .ok (.newarray .int, 2) := by decide +kernel
theorem dX5_init_17 : decode cX5_init 17 = .ok (.putfield 15, 3) := by decide +kernel
theorem dX5_init_20 : decode cX5_init 20 = .ok (.aload_n 0, 1) := by decide +kernel
theorem dX5_init_21 : decode cX5_init 21 = .ok (.getfield 9, 3) := by decide +kernel
theorem dX5_init_24 : decode cX5_init 24 = .ok (.iconst (-1), 1) := by decide +kernel
theorem dX5_init_25 : decode cX5_init 25 = .ok (.invokestatic 18, 3) := by decide +kernel
theorem dX5_init_28 : decode cX5_init 28 = .ok (.return_, 1) := by decide +kernel
theorem dX5_mostTired_0 : decode cX5_mostTired 0 = .ok (.iconst 0, 1) := by decide +kernel
theorem dX5_mostTired_1 : decode cX5_mostTired 1 = .ok (.istore_n 1, 1) := by decide +kernel
theorem dX5_mostTired_2 : decode cX5_mostTired 2 = .ok (.iconst 0, 1) := by decide +kernel
theorem dX5_mostTired_3 : decode cX5_mostTired 3 = .ok (.istore_n 2, 1) := by decide +kernel
theorem dX5_mostTired_4 : decode cX5_mostTired 4 = .ok (.iload_n 2, 1) := by decide +kernel
theorem dX5_mostTired_5 : decode cX5_mostTired 5 = .ok (.bipush 8, 2) := by decide +kernel
theorem dX5_mostTired_7 : decode cX5_mostTired 7 = .ok (.if_icmp .ge 20, 3) := by decide +kernel
theorem dX5_mostTired_10 : decode cX5_mostTired 10 = .ok (.iload_n 1, 1) := by decide +kernel
theorem dX5_mostTired_11 : decode cX5_mostTired 11 = .ok (.aload_n 0, 1) := by decide +kernel
theorem dX5_mostTired_12 : decode cX5_mostTired 12 = .ok (.getfield 15, 3) := by decide +kernel
theorem dX5_mostTired_15 : decode cX5_mostTired 15 = .ok (.iload_n 2, 1) := by decide +kernel
theorem dX5_mostTired_16 : decode cX5_mostTired 16 = .ok (.iaload, 1) := by decide +kernel
theorem dX5_mostTired_17 : decode cX5_mostTired 17 = .ok (.invokestatic 43, 3) := by decide +kernel
theorem dX5_mostTired_20 : decode cX5_mostTired 20 = .ok (.istore_n 1, 1) := by decide +kernel
theorem dX5_mostTired_21 : decode cX5_mostTired 21 = .ok (.iinc 2 1, 3) := by decide +kernel
theorem dX5_mostTired_24 : decode cX5_mostTired 24 = .ok (.goto (-20), 3) := by decide +kernel
theorem dX5_mostTired_27 : decode cX5_mostTired 27 = .ok (.iload_n 1, 1) := by decide +kernel
theorem dX5_mostTired_28 : decode cX5_mostTired 28 = .ok (.ireturn, 1) := by decide +kernel
theorem dX5_tiredOfAll_0 : decode cX5_tiredOfAll 0 = .ok (.iconst 0, 1) := by decide +kernel
theorem dX5_tiredOfAll_1 : decode cX5_tiredOfAll 1 = .ok (.istore_n 1, 1) := by decide +kernel
theorem dX5_tiredOfAll_2 : decode cX5_tiredOfAll 2 = .ok (.iconst 0, 1) := by decide +kernel
theorem dX5_tiredOfAll_3 : decode cX5_tiredOfAll 3 = .ok (.istore_n 2, 1) := by decide +kernel
theorem dX5_tiredOfAll_4 : decode cX5_tiredOfAll 4 = .ok (.iload_n 2, 1) := by decide +kernel
theorem dX5_tiredOfAll_5 : decode cX5_tiredOfAll 5 = .ok (.bipush 8, 2) := by decide +kernel
theorem dX5_tiredOfAll_7 : decode cX5_tiredOfAll 7 = .ok (.if_icmp .ge 18, 3) := by decide +kernel
theorem dX5_tiredOfAll_10 : decode cX5_tiredOfAll 10 = .ok (.iload_n 1, 1) := by decide +kernel
theorem dX5_tiredOfAll_11 : decode cX5_tiredOfAll 11 = .ok (.aload_n 0, 1) := by decide +kernel
theorem dX5_tiredOfAll_12 : decode cX5_tiredOfAll 12 = .ok (.getfield 15, 3) := by decide +kernel
theorem dX5_tiredOfAll_15 : decode cX5_tiredOfAll 15 = .ok (.iload_n 2, 1) := by decide +kernel
theorem dX5_tiredOfAll_16 : decode cX5_tiredOfAll 16 = .ok (.iaload, 1) := by decide +kernel
theorem dX5_tiredOfAll_17 : decode cX5_tiredOfAll 17 = .ok (.iadd, 1) := by decide +kernel
theorem dX5_tiredOfAll_18 : decode cX5_tiredOfAll 18 = .ok (.istore_n 1, 1) := by decide +kernel
theorem dX5_tiredOfAll_19 : decode cX5_tiredOfAll 19 = .ok (.iinc 2 1, 3) := by decide +kernel
theorem dX5_tiredOfAll_22 : decode cX5_tiredOfAll 22 = .ok (.goto (-18), 3) := by decide +kernel
theorem dX5_tiredOfAll_25 : decode cX5_tiredOfAll 25 = .ok (.iload_n 1, 1) := by decide +kernel
theorem dX5_tiredOfAll_26 : decode cX5_tiredOfAll 26 = .ok (.ireturn, 1) := by decide +kernel
theorem dX6_add_0 : decode cX6_add 0 = .ok (.aload_n 0, 1) := by decide +kernel
theorem dX6_add_1 : decode cX6_add 1 = .ok (.getfield 15, 3) := by decide +kernel
theorem dX6_add_4 : decode cX6_add 4 = .ok (.iconst 4, 1) := by decide +kernel
theorem dX6_add_5 : decode cX6_add 5 = .ok (.iadd, 1) := by decide +kernel
theorem dX6_add_6 : decode cX6_add 6 = .ok (.bipush 80, 2) := by decide +kernel
theorem dX6_add_8 : decode cX6_add 8 = .ok (.if_icmp .le 5, 3) := by decide +kernel
theorem dX6_add_13 : decode cX6_add 13 = .ok (.bipush 24, 2) := by decide +kernel
theorem dX6_add_15 : decode cX6_add 15 = .ok (.istore_n 2, 1) := by decide +kernel
theorem dX6_add_16 : decode cX6_add 16 = .ok (.iload_n 2, 1) := by decide +kernel
theorem dX6_add_17 : decode cX6_add 17 = .ok (.ifCond .lt 35, 3) := by decide +kernel
theorem dX6_add_20 : decode cX6_add 20 = .ok (.aload_n 0, 1) := by decide +kernel
theorem dX6_add_21 : decode cX6_add 21 = .ok (.getfield 11, 3) := by decide +kernel
theorem dX6_add_24 : decode cX6_add 24 = .ok (.aload_n 0, 1) := by decide +kernel
theorem dX6_add_25 : decode cX6_add 25 = .ok (.getfield 15, 3) := by decide +kernel
theorem dX6_add_28 : decode cX6_add 28 = .ok (.iload_n 1, 1) := by decide +kernel
theorem dX6_add_29 : decode cX6_add 29 = .ok (.iload_n 2, 1) := by decide +kernel
theorem dX6_add_30 : decode cX6_add 30 = .ok (.iushr, 1) := by decide +kernel
theorem dX6_add_31 : decode cX6_add 31 = .ok (.sipush 255, 3) := by decide +kernel
theorem dX6_add_34 : decode cX6_add 34 = .ok (.iand, 1) := by decide +kernel
theorem dX6_add_35 : decode cX6_add 35 = .ok (.iastore, 1) := by decide +kernel
theorem dX6_add_36 : decode cX6_add 36 = .ok (.aload_n 0, 1) := by decide +kernel
theorem dX6_add_37 : decode cX6_add 37 = .ok (.dup, 1) := by decide +kernel
theorem dX6_add_38 : decode cX6_add 38 = .ok (.getfield 15, 3) := by decide +kernel
theorem dX6_add_41 : decode cX6_add 41 = .ok (.iconst 1, 1) := by decide +kernel
theorem dX6_add_42 : decode cX6_add 42 = .ok (.iadd, 1) := by decide +kernel
theorem dX6_add_43 : decode cX6_add 43 = .ok (.putfield 15, 3) := by decide +kernel
theorem dX6_add_46 : decode cX6_add 46 = .ok (.iinc 2 (-8), 3) := by decide +kernel
theorem dX6_add_49 : decode cX6_add 49 = .ok (.goto (-33), 3) := by decide +kernel
theorem dX6_add_52 : decode cX6_add 52 = .ok (.aload_n 0, 1) := by decide +kernel
theorem dX6_add_53 : decode cX6_add 53 = .ok (.getfield 15, 3) := by decide +kernel
theorem dX6_add_56 : decode cX6_add 56 = .ok (.ireturn, 1) := by decide +kernel
theorem dX6_cut_0 : decode cX6_cut 0 = .ok (.iload_n 1, 1) := by decide +kernel
theorem dX6_cut_1 : decode cX6_cut 1 = .ok (.ifCond .lt 11, 3) := by decide +kernel
theorem dX6_cut_4 : decode cX6_cut 4 = .ok (.iload_n 1, 1) := by decide +kernel
theorem dX6_cut_5 : decode cX6_cut 5 = .ok (.aload_n 0, 1) := by decide +kernel
theorem dX6_cut_6 : decode cX6_cut 6 = .ok (.getfield 15, 3) := by decide +kernel
theorem dX6_cut_9 : decode cX6_cut 9 = .ok (.if_icmp .le 5, 3) := by decide +kernel
theorem dX6_cut_12 : decode cX6_cut 12 = .ok (.iconst 0, 1) := by decide +kernel
theorem dX6_cut_13 : decode cX6_cut 13 = .ok (.ireturn, 1) := by decide +kernel
theorem dX6_cut_14 : decode cX6_cut 14 = .ok (.aload_n 0, 1) := by decide +kernel
theorem dX6_cut_15 : decode cX6_cut 15 = .ok (.iload_n 1, 1) := by decide +kernel
theorem dX6_cut_16 : decode cX6_cut 16 = .ok (.putfield 15, 3) := by decide +kernel
theorem dX6_cut_19 : decode cX6_cut 19 = .ok (.iconst 1, 1) := by decide +kernel
theorem dX6_cut_20 : decode cX6_cut 20 = .ok (.ireturn, 1) := by decide +kernel
theorem dX6_empty_0 : decode cX6_empty 0 = .ok (.aload_n 0, 1) := by decide +kernel
theorem dX6_empty_1 : decode cX6_empty 1 = .ok (.iconst 0, 1) := by decide +kernel
theorem dX6_empty_2 : decode cX6_empty 2 = .ok (.putfield 15, 3) := by decide +kernel
theorem dX6_empty_5 : decode cX6_empty 5 = .ok (.return_, 1) := by decide +kernel
theorem dX6_init_0 : decode cX6_init 0 = .ok (.aload_n 0, 1) := by decide +kernel
theorem dX6_init_1 : decode cX6_init 1 = .ok (.invokespecial 3, 3) := by decide +kernel
theorem dX6_init_4 : decode cX6_init 4 = .ok (.aload_n 0, 1) := by decide +kernel
theorem dX6_init_5 : decode cX6_init 5 = .ok (.bipush 80, 2) := by decide +kernel
theorem dX6_init_7 : decode cX6_init 7 = .ok (.newarray .int, 2) := by decide +kernel
theorem dX6_init_9 : decode cX6_init 9 = .ok (.putfield 11, 3) := by decide +kernel
theorem dX6_init_12 : decode cX6_init 12 = .ok (.return_, 1) := by decide +kernel
theorem dX7_able_0 : decode cX7_able 0 = .ok (.iload_n 1, 1) := by decide +kernel
theorem dX7_able_1 : decode cX7_able 1 = .ok (.invokestatic 134, 3) := by decide +kernel
theorem dX7_able_4 : decode cX7_able 4 = .ok (.ifCond .ne 5, 3) := by decide +kernel
theorem dX7_able_7 : decode cX7_able 7 = .ok (.iconst (-1), 1) := by decide +kernel
theorem dX7_able_8 : decode cX7_able 8 = .ok (.ireturn, 1) := by decide +kernel
theorem dX7_able_9 : decode cX7_able 9 = .ok (.aload_n 0, 1) := by decide +kernel
theorem dX7_able_10 : decode cX7_able 10 = .ok (.getfield 61, 3) := by decide +kernel
theorem dX7_able_13 : decode cX7_able 13 = .ok (.invokevirtual 316, 3) := by decide +kernel
theorem dX7_able_16 : decode cX7_able 16 = .ok (.iconst 0, 1) := by decide +kernel
theorem dX7_able_17 : decode cX7_able 17 = .ok (.istore_n 2, 1) := by decide +kernel
theorem dX7_able_18 : decode cX7_able 18 = .ok (.iconst 0, 1) := by decide +kernel
theorem dX7_able_19 : decode cX7_able 19 = .ok (.istore_n 3, 1) := by decide +kernel
theorem dX7_able_20 : decode cX7_able 20 = .ok (.iload_n 3, 1) := by decide +kernel
theorem dX7_able_21 : decode cX7_able 21 = .ok (.aload_n 0, 1) := by decide +kernel
theorem dX7_able_22 : decode cX7_able 22 = .ok (.getfield 19, 3) := by decide +kernel
theorem dX7_able_25 : decode cX7_able 25 = .ok (.getfield 154, 3) := by decide +kernel
theorem dX7_able_28 : decode cX7_able 28 = .ok (.if_icmp .ge 43, 3) := by decide +kernel
theorem dX7_able_71 : decode cX7_able 71 = .ok (.iload_n 2, 1) := by decide +kernel
theorem dX7_able_72 : decode cX7_able 72 = .ok (.invokestatic 193, 3) := by decide +kernel
theorem dX7_able_75 : decode cX7_able 75 = .ok (.ireturn, 1) := by decide +kernel
theorem dX7_again_0 : decode cX7_again 0 = .ok (.iload_n 1, 1) := by decide +kernel
theorem dX7_again_1 : decode cX7_again 1 = .ok (.ifCond .lt 17, 3) := by decide +kernel
theorem dX7_again_4 : decode cX7_again 4 = .ok (.iload_n 1, 1) := by decide +kernel
theorem dX7_again_5 : decode cX7_again 5 = .ok (.iconst 2, 1) := by decide +kernel
theorem dX7_again_6 : decode cX7_again 6 = .ok (.if_icmp .ge 12, 3) := by decide +kernel
theorem dX7_again_9 : decode cX7_again 9 = .ok (.aload_n 0, 1) := by decide +kernel
theorem dX7_again_10 : decode cX7_again 10 = .ok (.getfield 47, 3) := by decide +kernel
theorem dX7_again_13 : decode cX7_again 13 = .ok (.iload_n 1, 1) := by decide +kernel
theorem dX7_again_14 : decode cX7_again 14 = .ok (.baload, 1) := by decide +kernel
theorem dX7_again_15 : decode cX7_again 15 = .ok (.ifCond .ne 5, 3) := by decide +kernel
theorem dX7_again_18 : decode cX7_again 18 = .ok (.iconst 0, 1) := by decide +kernel
theorem dX7_again_19 : decode cX7_again 19 = .ok (.ireturn, 1) := by decide +kernel
theorem dX7_ask_0 : decode cX7_ask 0 = .ok (.aload_n 0, 1) := by decide +kernel
theorem dX7_ask_1 : decode cX7_ask 1 = .ok (.invokevirtual 348, 3) := by decide +kernel
theorem dX7_ask_4 : decode cX7_ask 4 = .ok (.aload_n 0, 1) := by decide +kernel
theorem dX7_ask_5 : decode cX7_ask 5 = .ok (.getfield 54, 3) := by decide +kernel
theorem dX7_ask_8 : decode cX7_ask 8 = .ok (.invokevirtual 351, 3) := by decide +kernel
theorem dX7_ask_11 : decode cX7_ask 11 = .ok (.ifCond .ne 6, 3) := by decide +kernel
theorem dX7_ask_14 : decode cX7_ask 14 = .ok (.bipush (-2), 2) := by decide +kernel
theorem dX7_ask_16 : decode cX7_ask 16 = .ok (.ireturn, 1) := by decide +kernel
theorem dX7_away_0 : decode cX7_away 0 = .ok (.aload_n 0, 1) := by decide +kernel
theorem dX7_away_1 : decode cX7_away 1 = .ok (.iconst (-1), 1) := by decide +kernel
theorem dX7_away_2 : decode cX7_away 2 = .ok (.invokevirtual 268, 3) := by decide +kernel
theorem dX7_away_5 : decode cX7_away 5 = .ok (.iconst 0, 1) := by decide +kernel
theorem dX7_away_6 : decode cX7_away 6 = .ok (.istore_n 1, 1) := by decide +kernel
theorem dX7_away_7 : decode cX7_away 7 = .ok (.iload_n 1, 1) := by decide +kernel
theorem dX7_away_8 : decode cX7_away 8 = .ok (.aload_n 0, 1) := by decide +kernel
theorem dX7_away_9 : decode cX7_away 9 = .ok (.getfield 19, 3) := by decide +kernel
theorem dX7_away_12 : decode cX7_away 12 = .ok (.getfield 154, 3) := by decide +kernel
theorem dX7_away_15 : decode cX7_away 15 = .ok (.if_icmp .ge 26, 3) := by decide +kernel
theorem dX7_away_41 : decode cX7_away 41 = .ok (.aload_n 0, 1) := by decide +kernel
theorem dX7_away_42 : decode cX7_away 42 = .ok (.getfield 54, 3) := by decide +kernel
theorem dX7_away_45 : decode cX7_away 45 = .ok (.invokevirtual 275, 3) := by decide +kernel
theorem dX7_away_48 : decode cX7_away 48 = .ok (.lstore_n 1, 1) := by decide +kernel
theorem dX7_away_49 : decode cX7_away 49 = .ok (.lload_n 1, 1) := by decide +kernel
theorem dX7_away_50 : decode cX7_away 50 = .ok (.ldc2_w 262, 3) := by decide +kernel
theorem dX7_away_53 : decode cX7_away 53 = .ok (.lcmp, 1) := by decide +kernel
theorem dX7_away_54 : decode cX7_away 54 = .ok (.ifCond .lt 6, 3) := by decide +kernel
theorem dX7_away_57 : decode cX7_away 57 = .ok (.bipush (-2), 2) := by decide +kernel
theorem dX7_away_59 : decode cX7_away 59 = .ok (.ireturn, 1) := by decide +kernel
theorem dX7_bare_0 : decode cX7_bare 0 = .ok (.aload_n 0, 1) := by decide +kernel
theorem dX7_bare_1 : decode cX7_bare 1 = .ok (.iconst (-1), 1) := by decide +kernel
theorem dX7_bare_2 : decode cX7_bare 2 = .ok (.invokevirtual 268, 3) := by decide +kernel
theorem dX7_bare_5 : decode cX7_bare 5 = .ok (.aload_n 0, 1) := by decide +kernel
theorem dX7_bare_6 : decode cX7_bare 6 = .ok (.getfield 54, 3) := by decide +kernel
theorem dX7_bare_9 : decode cX7_bare 9 = .ok (.invokevirtual 275, 3) := by decide +kernel
theorem dX7_bare_12 : decode cX7_bare 12 = .ok (.pop2, 1) := by decide +kernel
theorem dX7_bare_13 : decode cX7_bare 13 = .ok (.bipush 9, 2) := by decide +kernel
theorem dX7_bare_15 : decode cX7_bare 15 = .ok (.istore_n 1, 1) := by decide +kernel
theorem dX7_bare_16 : decode cX7_bare 16 = .ok (.iconst 0, 1) := by decide +kernel
theorem dX7_bare_17 : decode cX7_bare 17 = .ok (.istore_n 2, 1) := by decide +kernel
theorem dX7_bare_18 : decode cX7_bare 18 = .ok (.iconst 1, 1) := by decide +kernel
theorem dX7_bare_19 : decode cX7_bare 19 = .ok (.istore_n 3, 1) := by decide +kernel
theorem dX7_bare_20 : decode cX7_bare 20 = .ok (.iload_n 3, 1) := by decide +kernel
theorem dX7_bare_21 : decode cX7_bare 21 = .ok (.aload_n 0, 1) := by decide +kernel
theorem dX7_bare_22 : decode cX7_bare 22 = .ok (.getfield 54, 3) := by decide +kernel
theorem dX7_bare_25 : decode cX7_bare 25 = .ok (.getfield 281, 3) := by decide +kernel
theorem dX7_bare_28 : decode cX7_bare 28 = .ok (.if_icmp .gt 35, 3) := by decide +kernel
theorem dX7_bare_31 : decode cX7_bare 31 = .ok (.aload_n 0, 1) := by decide +kernel
theorem dX7_bare_32 : decode cX7_bare 32 = .ok (.getfield 54, 3) := by decide +kernel
theorem dX7_bare_35 : decode cX7_bare 35 = .ok (.iload_n 3, 1) := by decide +kernel
theorem dX7_bare_36 : decode cX7_bare 36 = .ok (.invokevirtual 284, 3) := by decide +kernel
theorem dX7_bare_39 : decode cX7_bare 39 = .ok (.ifCond .ne 18, 3) := by decide +kernel
theorem dX7_bare_42 : decode cX7_bare 42 = .ok (.iload_n 3, 1) := by decide +kernel
theorem dX7_bare_43 : decode cX7_bare 43 = .ok (.invokestatic 193, 3) := by decide +kernel
theorem dX7_bare_46 : decode cX7_bare 46 = .ok (.iload_n 1, 1) := by decide +kernel
theorem dX7_bare_47 : decode cX7_bare 47 = .ok (.if_icmp .ge 10, 3) := by decide +kernel
theorem dX7_bare_50 : decode cX7_bare 50 = .ok (.iload_n 3, 1) := by decide +kernel
theorem dX7_bare_51 : decode cX7_bare 51 = .ok (.invokestatic 193, 3) := by decide +kernel
theorem dX7_bare_54 : decode cX7_bare 54 = .ok (.istore_n 1, 1) := by decide +kernel
theorem dX7_bare_55 : decode cX7_bare 55 = .ok (.iload_n 3, 1) := by decide +kernel
theorem dX7_bare_56 : decode cX7_bare 56 = .ok (.istore_n 2, 1) := by decide +kernel
theorem dX7_bare_57 : decode cX7_bare 57 = .ok (.iinc 3 1, 3) := by decide +kernel
theorem dX7_bare_60 : decode cX7_bare 60 = .ok (.goto (-40), 3) := by decide +kernel
theorem dX7_bare_63 : decode cX7_bare 63 = .ok (.iload_n 2, 1) := by decide +kernel
theorem dX7_bare_64 : decode cX7_bare 64 = .ok (.ifCond .ne 6, 3) := by decide +kernel
theorem dX7_bare_70 : decode cX7_bare 70 = .ok (.aload_n 0, 1) := by decide +kernel
theorem dX7_bare_71 : decode cX7_bare 71 = .ok (.getfield 61, 3) := by decide +kernel
theorem dX7_bare_74 : decode cX7_bare 74 = .ok (.iload_n 2, 1) := by decide +kernel
theorem dX7_bare_75 : decode cX7_bare 75 = .ok (.i2l, 1) := by decide +kernel
theorem dX7_bare_76 : decode cX7_bare 76 = .ok (.invokevirtual 247, 3) := by decide +kernel
theorem dX7_bare_79 : decode cX7_bare 79 = .ok (.iload_n 1, 1) := by decide +kernel
theorem dX7_bare_80 : decode cX7_bare 80 = .ok (.ireturn, 1) := by decide +kernel
theorem dX7_chance_0 : decode cX7_chance 0 = .ok (.iload_n 1, 1) := by decide +kernel
theorem dX7_chance_1 : decode cX7_chance 1 = .ok (.invokestatic 193, 3) := by decide +kernel
theorem dX7_chance_4 : decode cX7_chance 4 = .ok (.istore_n 3, 1) := by decide +kernel
theorem dX7_chance_5 : decode cX7_chance 5 = .ok (.lconst 0, 1) := by decide +kernel
theorem dX7_chance_6 : decode cX7_chance 6 = .ok (.lstore 4, 2) := by decide +kernel
theorem dX7_chance_8 : decode cX7_chance 8 = .ok (.iconst 0, 1) := by decide +kernel
theorem dX7_chance_9 : decode cX7_chance 9 = .ok (.istore 6, 2) := by decide +kernel
theorem dX7_chance_11 : decode cX7_chance 11 = .ok (.iload 6, 2) := by decide +kernel
theorem dX7_chance_13 : decode cX7_chance 13 = .ok (.iload_n 1, 1) := by decide +kernel
theorem dX7_chance_14 : decode cX7_chance 14 = .ok (.if_icmp .gt 60, 3) := by decide +kernel
theorem dX7_chance_17 : decode cX7_chance 17 = .ok (.iload 6, 2) := by decide +kernel
theorem dX7_chance_19 : decode cX7_chance 19 = .ok (.iload_n 1, 1) := by decide +kernel
theorem dX7_chance_20 : decode cX7_chance 20 = .ok (.iconst (-1), 1) := by decide +kernel
theorem dX7_chance_21 : decode cX7_chance 21 = .ok (.ixor, 1) := by decide +kernel
theorem dX7_chance_22 : decode cX7_chance 22 = .ok (.iand, 1) := by decide +kernel
theorem dX7_chance_23 : decode cX7_chance 23 = .ok (.ifCond .ne 45, 3) := by decide +kernel
theorem dX7_chance_26 : decode cX7_chance 26 = .ok (.aload_n 0, 1) := by decide +kernel
theorem dX7_chance_27 : decode cX7_chance 27 = .ok (.getfield 54, 3) := by decide +kernel
theorem dX7_chance_30 : decode cX7_chance 30 = .ok (.iload 6, 2) := by decide +kernel
theorem dX7_chance_32 : decode cX7_chance 32 = .ok (.invokevirtual 446, 3) := by decide +kernel
theorem dX7_chance_35 : decode cX7_chance 35 = .ok (.ifCond .ne 33, 3) := by decide +kernel
theorem dX7_chance_68 : decode cX7_chance 68 = .ok (.iinc 6 1, 3) := by decide +kernel
theorem dX7_chance_71 : decode cX7_chance 71 = .ok (.goto (-60), 3) := by decide +kernel
theorem dX7_chance_74 : decode cX7_chance 74 = .ok (.lload 4, 2) := by decide +kernel
theorem dX7_chance_76 : decode cX7_chance 76 = .ok (.lreturn, 1) := by decide +kernel
theorem dX7_changes_0 : decode cX7_changes 0 = .ok (.iconst 0, 1) := by decide +kernel
theorem dX7_changes_1 : decode cX7_changes 1 = .ok (.istore_n 1, 1) := by decide +kernel
theorem dX7_changes_2 : decode cX7_changes 2 = .ok (.iconst 0, 1) := by decide +kernel
theorem dX7_changes_3 : decode cX7_changes 3 = .ok (.istore_n 2, 1) := by decide +kernel
theorem dX7_changes_4 : decode cX7_changes 4 = .ok (.iconst 0, 1) := by decide +kernel
theorem dX7_changes_5 : decode cX7_changes 5 = .ok (.istore_n 3, 1) := by decide +kernel
theorem dX7_changes_6 : decode cX7_changes 6 = .ok (.iconst 1, 1) := by decide +kernel
theorem dX7_changes_7 : decode cX7_changes 7 = .ok (.istore 4, 2) := by decide +kernel
theorem dX7_changes_9 : decode cX7_changes 9 = .ok (.iload 4, 2) := by decide +kernel
theorem dX7_changes_11 : decode cX7_changes 11 = .ok (.bipush 8, 2) := by decide +kernel
theorem dX7_changes_13 : decode cX7_changes 13 = .ok (.if_icmp .ge 90, 3) := by decide +kernel
theorem dX7_changes_16 : decode cX7_changes 16 = .ok (.aload_n 0, 1) := by decide +kernel
theorem dX7_changes_17 : decode cX7_changes 17 = .ok (.getfield 26, 3) := by decide +kernel
theorem dX7_changes_20 : decode cX7_changes 20 = .ok (.getfield 183, 3) := by decide +kernel
theorem dX7_changes_23 : decode cX7_changes 23 = .ok (.iload 4, 2) := by decide +kernel
theorem dX7_changes_25 : decode cX7_changes 25 = .ok (.iconst 1, 1) := by decide +kernel
theorem dX7_changes_26 : decode cX7_changes 26 = .ok (.isub, 1) := by decide +kernel
theorem dX7_changes_27 : decode cX7_changes 27 = .ok (.iaload, 1) := by decide +kernel
theorem dX7_changes_28 : decode cX7_changes 28 = .ok (.istore 5, 2) := by decide +kernel
theorem dX7_changes_30 : decode cX7_changes 30 = .ok (.aload_n 0, 1) := by decide +kernel
theorem dX7_changes_31 : decode cX7_changes 31 = .ok (.getfield 26, 3) := by decide +kernel
theorem dX7_changes_34 : decode cX7_changes 34 = .ok (.getfield 183, 3) := by decide +kernel
theorem dX7_changes_37 : decode cX7_changes 37 = .ok (.iload 4, 2) := by decide +kernel
theorem dX7_changes_39 : decode cX7_changes 39 = .ok (.iaload, 1) := by decide +kernel
theorem dX7_changes_40 : decode cX7_changes 40 = .ok (.istore 6, 2) := by decide +kernel
theorem dX7_changes_42 : decode cX7_changes 42 = .ok (.aload_n 0, 1) := by decide +kernel
theorem dX7_changes_43 : decode cX7_changes 43 = .ok (.getfield 19, 3) := by decide +kernel
theorem dX7_changes_46 : decode cX7_changes 46 = .ok (.iload 5, 2) := by decide +kernel
theorem dX7_changes_48 : decode cX7_changes 48 = .ok (.iload 6, 2) := by decide +kernel
theorem dX7_changes_50 : decode cX7_changes 50 = .ok (.invokevirtual 328, 3) := by decide +kernel
theorem dX7_changes_53 : decode cX7_changes 53 = .ok (.ifCond .eq 44, 3) := by decide +kernel
theorem dX7_changes_97 : decode cX7_changes 97 = .ok (.iinc 4 1, 3) := by decide +kernel
theorem dX7_changes_100 : decode cX7_changes 100 = .ok (.goto (-91), 3) := by decide +kernel
theorem dX7_changes_103 : decode cX7_changes 103 = .ok (.aload_n 0, 1) := by decide +kernel
theorem dX7_changes_104 : decode cX7_changes 104 = .ok (.getfield 61, 3) := by decide +kernel
theorem dX7_changes_107 : decode cX7_changes 107 = .ok (.iload_n 2, 1) := by decide +kernel
theorem dX7_changes_108 : decode cX7_changes 108 = .ok (.i2l, 1) := by decide +kernel
theorem dX7_changes_109 : decode cX7_changes 109 = .ok (.iload_n 3, 1) := by decide +kernel
theorem dX7_changes_110 : decode cX7_changes 110 = .ok (.i2l, 1) := by decide +kernel
theorem dX7_changes_111 : decode cX7_changes 111 = .ok (.invokevirtual 208, 3) := by decide +kernel
theorem dX7_changes_114 : decode cX7_changes 114 = .ok (.iload_n 1, 1) := by decide +kernel
theorem dX7_changes_115 : decode cX7_changes 115 = .ok (.ireturn, 1) := by decide +kernel
theorem dX7_count_0 : decode cX7_count 0 = .ok (.iload_n 1, 1) := by decide +kernel
theorem dX7_count_1 : decode cX7_count 1 = .ok (.bipush 20, 2) := by decide +kernel
theorem dX7_count_3 : decode cX7_count 3 = .ok (.if_icmp .lt 22, 3) := by decide +kernel
theorem dX7_count_6 : decode cX7_count 6 = .ok (.iload_n 1, 1) := by decide +kernel
theorem dX7_count_7 : decode cX7_count 7 = .ok (.bipush 28, 2) := by decide +kernel
theorem dX7_count_9 : decode cX7_count 9 = .ok (.if_icmp .ge 16, 3) := by decide +kernel
theorem dX7_count_12 : decode cX7_count 12 = .ok (.aload_n 0, 1) := by decide +kernel
theorem dX7_count_13 : decode cX7_count 13 = .ok (.getfield 26, 3) := by decide +kernel
theorem dX7_count_16 : decode cX7_count 16 = .ok (.getfield 183, 3) := by decide +kernel
theorem dX7_count_19 : decode cX7_count 19 = .ok (.iload_n 1, 1) := by decide +kernel
theorem dX7_count_20 : decode cX7_count 20 = .ok (.bipush 20, 2) := by decide +kernel
theorem dX7_count_22 : decode cX7_count 22 = .ok (.isub, 1) := by decide +kernel
theorem dX7_count_23 : decode cX7_count 23 = .ok (.iaload, 1) := by decide +kernel
theorem dX7_count_24 : decode cX7_count 24 = .ok (.ireturn, 1) := by decide +kernel
theorem dX7_count_25 : decode cX7_count 25 = .ok (.iload_n 1, 1) := by decide +kernel
theorem dX7_count_26 : decode cX7_count 26 = .ok (.tableswitch 155 0 11 #[62, 70, 78, 86, 94, 102, 110, 118, 126, 131, 139, 147], 62) := by decide +kernel
theorem dX7_count_88 : decode cX7_count 88 = .ok (.aload_n 0, 1) := by decide +kernel
theorem dX7_count_89 : decode cX7_count 89 = .ok (.getfield 19, 3) := by decide +kernel
theorem dX7_count_92 : decode cX7_count 92 = .ok (.getfield 141, 3) := by decide +kernel
theorem dX7_count_95 : decode cX7_count 95 = .ok (.ireturn, 1) := by decide +kernel
theorem dX7_count_96 : decode cX7_count 96 = .ok (.aload_n 0, 1) := by decide +kernel
theorem dX7_count_97 : decode cX7_count 97 = .ok (.getfield 19, 3) := by decide +kernel
theorem dX7_count_100 : decode cX7_count 100 = .ok (.getfield 145, 3) := by decide +kernel
theorem dX7_count_103 : decode cX7_count 103 = .ok (.ireturn, 1) := by decide +kernel
theorem dX7_count_104 : decode cX7_count 104 = .ok (.aload_n 0, 1) := by decide +kernel
theorem dX7_count_105 : decode cX7_count 105 = .ok (.getfield 19, 3) := by decide +kernel
theorem dX7_count_108 : decode cX7_count 108 = .ok (.getfield 154, 3) := by decide +kernel
theorem dX7_count_111 : decode cX7_count 111 = .ok (.ireturn, 1) := by decide +kernel
theorem dX7_count_112 : decode cX7_count 112 = .ok (.aload_n 0, 1) := by decide +kernel
theorem dX7_count_113 : decode cX7_count 113 = .ok (.getfield 26, 3) := by decide +kernel
theorem dX7_count_116 : decode cX7_count 116 = .ok (.getfield 190, 3) := by decide +kernel
theorem dX7_count_119 : decode cX7_count 119 = .ok (.ireturn, 1) := by decide +kernel
theorem dX7_count_120 : decode cX7_count 120 = .ok (.aload_n 0, 1) := by decide +kernel
theorem dX7_count_121 : decode cX7_count 121 = .ok (.getfield 26, 3) := by decide +kernel
theorem dX7_count_124 : decode cX7_count 124 = .ok (.getfield 391, 3) := by decide +kernel
theorem dX7_count_127 : decode cX7_count 127 = .ok (.ireturn, 1) := by decide +kernel
theorem dX7_count_128 : decode cX7_count 128 = .ok (.aload_n 0, 1) := by decide +kernel
theorem dX7_count_129 : decode cX7_count 129 = .ok (.getfield 26, 3) := by decide +kernel
theorem dX7_count_132 : decode cX7_count 132 = .ok (.getfield 198, 3) := by decide +kernel
theorem dX7_count_135 : decode cX7_count 135 = .ok (.ireturn, 1) := by decide +kernel
theorem dX7_count_136 : decode cX7_count 136 = .ok (.aload_n 0, 1) := by decide +kernel
theorem dX7_count_137 : decode cX7_count 137 = .ok (.getfield 26, 3) := by decide +kernel
theorem dX7_count_140 : decode cX7_count 140 = .ok (.getfield 201, 3) := by decide +kernel
theorem dX7_count_143 : decode cX7_count 143 = .ok (.ireturn, 1) := by decide +kernel
theorem dX7_count_144 : decode cX7_count 144 = .ok (.aload_n 0, 1) := by decide +kernel
theorem dX7_count_145 : decode cX7_count 145 = .ok (.getfield 26, 3) := by decide +kernel
theorem dX7_count_148 : decode cX7_count 148 = .ok (.invokevirtual 164, 3) := by decide +kernel
theorem dX7_count_151 : decode cX7_count 151 = .ok (.ireturn, 1) := by decide +kernel
theorem dX7_count_152 : decode cX7_count 152 = .ok (.aload_n 0, 1) := by decide +kernel
theorem dX7_count_153 : decode cX7_count 153 = .ok (.getfield 345, 3) := by decide +kernel
theorem dX7_count_156 : decode cX7_count 156 = .ok (.ireturn, 1) := by decide +kernel
theorem dX7_count_157 : decode cX7_count 157 = .ok (.aload_n 0, 1) := by decide +kernel
theorem dX7_count_158 : decode cX7_count 158 = .ok (.getfield 39, 3) := by decide +kernel
theorem dX7_count_161 : decode cX7_count 161 = .ok (.getfield 394, 3) := by decide +kernel
theorem dX7_count_164 : decode cX7_count 164 = .ok (.ireturn, 1) := by decide +kernel
theorem dX7_count_165 : decode cX7_count 165 = .ok (.aload_n 0, 1) := by decide +kernel
theorem dX7_count_166 : decode cX7_count 166 = .ok (.getfield 61, 3) := by decide +kernel
theorem dX7_count_169 : decode cX7_count 169 = .ok (.getfield 397, 3) := by decide +kernel
theorem dX7_count_172 : decode cX7_count 172 = .ok (.ireturn, 1) := by decide +kernel
theorem dX7_count_173 : decode cX7_count 173 = .ok (.aload_n 0, 1) := by decide +kernel
theorem dX7_count_174 : decode cX7_count 174 = .ok (.getfield 10, 3) := by decide +kernel
theorem dX7_count_177 : decode cX7_count 177 = .ok (.getfield 215, 3) := by decide +kernel
theorem dX7_count_180 : decode cX7_count 180 = .ok (.ireturn, 1) := by decide +kernel
theorem dX7_count_181 : decode cX7_count 181 = .ok (.bipush (-100), 2) := by decide +kernel
theorem dX7_count_183 : decode cX7_count 183 = .ok (.ireturn, 1) := by decide +kernel
theorem dX7_draw_0 : decode cX7_draw 0 = .ok (.aload_n 0, 1) := by decide +kernel
theorem dX7_draw_1 : decode cX7_draw 1 = .ok (.aload_n 0, 1) := by decide +kernel
theorem dX7_draw_2 : decode cX7_draw 2 = .ok (.getfield 385, 3) := by decide +kernel
theorem dX7_draw_5 : decode cX7_draw 5 = .ok (.ldc_w 426, 3) := by decide +kernel
theorem dX7_draw_8 : decode cX7_draw 8 = .ok (.imul, 1) := by decide +kernel
theorem dX7_draw_9 : decode cX7_draw 9 = .ok (.sipush 12345, 3) := by decide +kernel
theorem dX7_draw_12 : decode cX7_draw 12 = .ok (.iadd, 1) := by decide +kernel
theorem dX7_draw_13 : decode cX7_draw 13 = .ok (.putfield 385, 3) := by decide +kernel
theorem dX7_draw_16 : decode cX7_draw 16 = .ok (.iload_n 1, 1) := by decide +kernel
theorem dX7_draw_17 : decode cX7_draw 17 = .ok (.ifCond .le 15, 3) := by decide +kernel
theorem dX7_draw_20 : decode cX7_draw 20 = .ok (.aload_n 0, 1) := by decide +kernel
theorem dX7_draw_21 : decode cX7_draw 21 = .ok (.getfield 385, 3) := by decide +kernel
theorem dX7_draw_24 : decode cX7_draw 24 = .ok (.bipush 16, 2) := by decide +kernel
theorem dX7_draw_26 : decode cX7_draw 26 = .ok (.iushr, 1) := by decide +kernel
theorem dX7_draw_27 : decode cX7_draw 27 = .ok (.iload_n 1, 1) := by decide +kernel
theorem dX7_draw_28 : decode cX7_draw 28 = .ok (.irem, 1) := by decide +kernel
theorem dX7_draw_29 : decode cX7_draw 29 = .ok (.goto 4, 3) := by decide +kernel
theorem dX7_draw_33 : decode cX7_draw 33 = .ok (.ireturn, 1) := by decide +kernel
theorem dX7_drawAct_0 : decode cX7_drawAct 0 = .ok (.aload_n 0, 1) := by decide +kernel
theorem dX7_drawAct_1 : decode cX7_drawAct 1 = .ok (.iconst 4, 1) := by decide +kernel
theorem dX7_drawAct_2 : decode cX7_drawAct 2 = .ok (.invokevirtual 427, 3) := by decide +kernel
theorem dX7_drawAct_5 : decode cX7_drawAct 5 = .ok (.istore_n 1, 1) := by decide +kernel
theorem dX7_drawAct_6 : decode cX7_drawAct 6 = .ok (.iload_n 1, 1) := by decide +kernel
theorem dX7_drawAct_7 : decode cX7_drawAct 7 = .ok (.iconst 2, 1) := by decide +kernel
theorem dX7_drawAct_8 : decode cX7_drawAct 8 = .ok (.if_icmp .ge 17, 3) := by decide +kernel
theorem dX7_drawAct_11 : decode cX7_drawAct 11 = .ok (.aload_n 0, 1) := by decide +kernel
theorem dX7_drawAct_12 : decode cX7_drawAct 12 = .ok (.getfield 19, 3) := by decide +kernel
theorem dX7_drawAct_15 : decode cX7_drawAct 15 = .ok (.aload_n 0, 1) := by decide +kernel
theorem dX7_drawAct_16 : decode cX7_drawAct 16 = .ok (.getfield 33, 3) := by decide +kernel
theorem dX7_drawAct_19 : decode cX7_drawAct 19 = .ok (.invokevirtual 241, 3) := by decide +kernel
theorem dX7_drawAct_22 : decode cX7_drawAct 22 = .ok (.goto 76, 3) := by decide +kernel
theorem dX7_drawAct_25 : decode cX7_drawAct 25 = .ok (.aload_n 0, 1) := by decide +kernel
theorem dX7_drawAct_26 : decode cX7_drawAct 26 = .ok (.getfield 19, 3) := by decide +kernel
theorem dX7_drawAct_29 : decode cX7_drawAct 29 = .ok (.getfield 154, 3) := by decide +kernel
theorem dX7_drawAct_32 : decode cX7_drawAct 32 = .ok (.ifCond .le 29, 3) := by decide +kernel
theorem dX7_drawAct_61 : decode cX7_drawAct 61 = .ok (.aload_n 0, 1) := by decide +kernel
theorem dX7_drawAct_62 : decode cX7_drawAct 62 = .ok (.getfield 19, 3) := by decide +kernel
theorem dX7_drawAct_65 : decode cX7_drawAct 65 = .ok (.getfield 154, 3) := by decide +kernel
theorem dX7_drawAct_68 : decode cX7_drawAct 68 = .ok (.ifCond .le 30, 3) := by decide +kernel
theorem dX7_drawAct_98 : decode cX7_drawAct 98 = .ok (.return_, 1) := by decide +kernel
theorem dX7_easiest_0 : decode cX7_easiest 0 = .ok (.aload_n 0, 1) := by decide +kernel
theorem dX7_easiest_1 : decode cX7_easiest 1 = .ok (.iconst (-1), 1) := by decide +kernel
theorem dX7_easiest_2 : decode cX7_easiest 2 = .ok (.invokevirtual 258, 3) := by decide +kernel
theorem dX7_easiest_5 : decode cX7_easiest 5 = .ok (.lstore_n 1, 1) := by decide +kernel
theorem dX7_easiest_6 : decode cX7_easiest 6 = .ok (.lload_n 1, 1) := by decide +kernel
theorem dX7_easiest_7 : decode cX7_easiest 7 = .ok (.ldc2_w 262, 3) := by decide +kernel
theorem dX7_easiest_10 : decode cX7_easiest 10 = .ok (.lcmp, 1) := by decide +kernel
theorem dX7_easiest_11 : decode cX7_easiest 11 = .ok (.ifCond .lt 8, 3) := by decide +kernel
theorem dX7_easiest_14 : decode cX7_easiest 14 = .ok (.bipush (-2), 2) := by decide +kernel
theorem dX7_easiest_16 : decode cX7_easiest 16 = .ok (.goto 8, 3) := by decide +kernel
theorem dX7_easiest_24 : decode cX7_easiest 24 = .ok (.ireturn, 1) := by decide +kernel
theorem dX7_easiestWithout_0 : decode cX7_easiestWithout 0 = .ok (.aload_n 0, 1) := by decide +kernel
theorem dX7_easiestWithout_1 : decode cX7_easiestWithout 1 = .ok (.iload_n 1, 1) := by decide +kernel
theorem dX7_easiestWithout_2 : decode cX7_easiestWithout 2 = .ok (.invokevirtual 268, 3) := by decide +kernel
theorem dX7_easiestWithout_5 : decode cX7_easiestWithout 5 = .ok (.aload_n 0, 1) := by decide +kernel
theorem dX7_easiestWithout_6 : decode cX7_easiestWithout 6 = .ok (.invokevirtual 443, 3) := by decide +kernel
theorem dX7_easiestWithout_9 : decode cX7_easiestWithout 9 = .ok (.aload_n 0, 1) := by decide +kernel
theorem dX7_easiestWithout_10 : decode cX7_easiestWithout 10 = .ok (.getfield 54, 3) := by decide +kernel
theorem dX7_easiestWithout_13 : decode cX7_easiestWithout 13 = .ok (.invokevirtual 275, 3) := by decide +kernel
theorem dX7_easiestWithout_16 : decode cX7_easiestWithout 16 = .ok (.lreturn, 1) := by decide +kernel
theorem dX7_end_0 : decode cX7_end 0 = .ok (.aload_n 0, 1) := by decide +kernel
theorem dX7_end_1 : decode cX7_end 1 = .ok (.getfield 10, 3) := by decide +kernel
theorem dX7_end_4 : decode cX7_end 4 = .ok (.iload_n 1, 1) := by decide +kernel
theorem dX7_end_5 : decode cX7_end 5 = .ok (.invokevirtual 86, 3) := by decide +kernel
theorem dX7_end_8 : decode cX7_end 8 = .ok (.ireturn, 1) := by decide +kernel
theorem dX7_fairest_0 : decode cX7_fairest 0 = .ok (.aload_n 0, 1) := by decide +kernel
theorem dX7_fairest_1 : decode cX7_fairest 1 = .ok (.iconst (-1), 1) := by decide +kernel
theorem dX7_fairest_2 : decode cX7_fairest 2 = .ok (.invokevirtual 268, 3) := by decide +kernel
theorem dX7_fairest_5 : decode cX7_fairest 5 = .ok (.iconst 0, 1) := by decide +kernel
theorem dX7_fairest_6 : decode cX7_fairest 6 = .ok (.istore_n 1, 1) := by decide +kernel
theorem dX7_fairest_7 : decode cX7_fairest 7 = .ok (.iload_n 1, 1) := by decide +kernel
theorem dX7_fairest_8 : decode cX7_fairest 8 = .ok (.aload_n 0, 1) := by decide +kernel
theorem dX7_fairest_9 : decode cX7_fairest 9 = .ok (.getfield 19, 3) := by decide +kernel
theorem dX7_fairest_12 : decode cX7_fairest 12 = .ok (.getfield 154, 3) := by decide +kernel
theorem dX7_fairest_15 : decode cX7_fairest 15 = .ok (.if_icmp .ge 44, 3) := by decide +kernel
theorem dX7_fairest_59 : decode cX7_fairest 59 = .ok (.aload_n 0, 1) := by decide +kernel
theorem dX7_fairest_60 : decode cX7_fairest 60 = .ok (.getfield 54, 3) := by decide +kernel
theorem dX7_fairest_63 : decode cX7_fairest 63 = .ok (.invokevirtual 304, 3) := by decide +kernel
theorem dX7_fairest_66 : decode cX7_fairest 66 = .ok (.lstore_n 1, 1) := by decide +kernel
theorem dX7_fairest_67 : decode cX7_fairest 67 = .ok (.lload_n 1, 1) := by decide +kernel
theorem dX7_fairest_68 : decode cX7_fairest 68 = .ok (.ldc2_w 262, 3) := by decide +kernel
theorem dX7_fairest_71 : decode cX7_fairest 71 = .ok (.lcmp, 1) := by decide +kernel
theorem dX7_fairest_72 : decode cX7_fairest 72 = .ok (.ifCond .lt 6, 3) := by decide +kernel
theorem dX7_fairest_75 : decode cX7_fairest 75 = .ok (.bipush (-2), 2) := by decide +kernel
theorem dX7_fairest_77 : decode cX7_fairest 77 = .ok (.ireturn, 1) := by decide +kernel
theorem dX7_fewest_0 : decode cX7_fewest 0 = .ok (.aload_n 0, 1) := by decide +kernel
theorem dX7_fewest_1 : decode cX7_fewest 1 = .ok (.iconst (-1), 1) := by decide +kernel
theorem dX7_fewest_2 : decode cX7_fewest 2 = .ok (.invokevirtual 268, 3) := by decide +kernel
theorem dX7_fewest_5 : decode cX7_fewest 5 = .ok (.iconst 0, 1) := by decide +kernel
theorem dX7_fewest_6 : decode cX7_fewest 6 = .ok (.istore_n 1, 1) := by decide +kernel
theorem dX7_fewest_7 : decode cX7_fewest 7 = .ok (.iload_n 1, 1) := by decide +kernel
theorem dX7_fewest_8 : decode cX7_fewest 8 = .ok (.aload_n 0, 1) := by decide +kernel
theorem dX7_fewest_9 : decode cX7_fewest 9 = .ok (.getfield 19, 3) := by decide +kernel
theorem dX7_fewest_12 : decode cX7_fewest 12 = .ok (.getfield 154, 3) := by decide +kernel
theorem dX7_fewest_15 : decode cX7_fewest 15 = .ok (.if_icmp .ge 26, 3) := by decide +kernel
theorem dX7_fewest_41 : decode cX7_fewest 41 = .ok (.aload_n 0, 1) := by decide +kernel
theorem dX7_fewest_42 : decode cX7_fewest 42 = .ok (.getfield 54, 3) := by decide +kernel
theorem dX7_fewest_45 : decode cX7_fewest 45 = .ok (.invokevirtual 275, 3) := by decide +kernel
theorem dX7_fewest_48 : decode cX7_fewest 48 = .ok (.lstore_n 1, 1) := by decide +kernel
theorem dX7_fewest_49 : decode cX7_fewest 49 = .ok (.lload_n 1, 1) := by decide +kernel
theorem dX7_fewest_50 : decode cX7_fewest 50 = .ok (.ldc2_w 262, 3) := by decide +kernel
theorem dX7_fewest_53 : decode cX7_fewest 53 = .ok (.lcmp, 1) := by decide +kernel
theorem dX7_fewest_54 : decode cX7_fewest 54 = .ok (.ifCond .lt 6, 3) := by decide +kernel
theorem dX7_fewest_57 : decode cX7_fewest 57 = .ok (.bipush (-2), 2) := by decide +kernel
theorem dX7_fewest_59 : decode cX7_fewest 59 = .ok (.ireturn, 1) := by decide +kernel
theorem dX7_first_0 : decode cX7_first 0 = .ok (.iload_n 1, 1) := by decide +kernel
theorem dX7_first_1 : decode cX7_first 1 = .ok (.iconst 1, 1) := by decide +kernel
theorem dX7_first_2 : decode cX7_first 2 = .ok (.if_icmp .lt 9, 3) := by decide +kernel
theorem dX7_first_5 : decode cX7_first 5 = .ok (.iload_n 1, 1) := by decide +kernel
theorem dX7_first_6 : decode cX7_first 6 = .ok (.bipush 60, 2) := by decide +kernel
theorem dX7_first_8 : decode cX7_first 8 = .ok (.if_icmp .le 5, 3) := by decide +kernel
theorem dX7_first_11 : decode cX7_first 11 = .ok (.iconst (-1), 1) := by decide +kernel
theorem dX7_first_12 : decode cX7_first 12 = .ok (.ireturn, 1) := by decide +kernel
theorem dX7_first_13 : decode cX7_first 13 = .ok (.aload_n 0, 1) := by decide +kernel
theorem dX7_first_14 : decode cX7_first 14 = .ok (.getfield 33, 3) := by decide +kernel
