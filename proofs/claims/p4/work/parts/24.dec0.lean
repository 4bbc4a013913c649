theorem dJ0_charAt_5068e_0 : decode cJ0_charAt_5068e 0 = .ok (.aload_n 0, 1) := by decide +kernel
theorem dJ0_charAt_5068e_1 : decode cJ0_charAt_5068e 1 = .ok (.invokevirtual 492, 3) := by decide +kernel
theorem dJ0_charAt_5068e_4 : decode cJ0_charAt_5068e 4 = .ok (.ifCond .eq 12, 3) := by decide +kernel
theorem dJ0_charAt_5068e_7 : decode cJ0_charAt_5068e 7 = .ok (.aload_n 0, 1) := by decide +kernel
theorem dJ0_charAt_5068e_8 : decode cJ0_charAt_5068e 8 = .ok (.getfield 9, 3) := by decide +kernel
theorem dJ0_charAt_5068e_11 : decode cJ0_charAt_5068e 11 = .ok (.iload_n 1, 1) := by decide +kernel
theorem dJ0_charAt_5068e_12 : decode cJ0_charAt_5068e 12 = .ok (.invokestatic 495, 3) := by decide +kernel
theorem dJ0_charAt_5068e_15 : decode cJ0_charAt_5068e 15 = .ok (.ireturn, 1) := by decide +kernel
theorem dJ0_charAt_5068e_16 : decode cJ0_charAt_5068e 16 = .ok (.aload_n 0, 1) := by decide +kernel
theorem dJ0_charAt_5068e_17 : decode cJ0_charAt_5068e 17 = .ok (.getfield 9, 3) := by decide +kernel
theorem dJ0_charAt_5068e_20 : decode cJ0_charAt_5068e 20 = .ok (.iload_n 1, 1) := by decide +kernel
theorem dJ0_charAt_5068e_24 : decode cJ0_charAt_5068e 24 = .ok (.ireturn, 1) := by decide +kernel
theorem dJ0_checkBoundsBeginEnd_23922_0 : decode cJ0_checkBoundsBeginEnd_23922 0 = .ok (.iload_n 0, 1) := by decide +kernel
theorem dJ0_checkBoundsBeginEnd_23922_1 : decode cJ0_checkBoundsBeginEnd_23922 1 = .ok (.iload_n 1, 1) := by decide +kernel
theorem dJ0_checkBoundsBeginEnd_23922_2 : decode cJ0_checkBoundsBeginEnd_23922 2 = .ok (.iload_n 2, 1) := by decide +kernel
theorem dJ0_checkBoundsBeginEnd_23922_3 : decode cJ0_checkBoundsBeginEnd_23922 3 = .ok (.getstatic 1053, 3) := by decide +kernel
theorem dJ0_checkBoundsBeginEnd_23922_6 : decode cJ0_checkBoundsBeginEnd_23922 6 = .ok (.invokestatic 1062, 3) := by decide +kernel
theorem dJ0_checkBoundsBeginEnd_23922_9 : decode cJ0_checkBoundsBeginEnd_23922 9 = .ok (.pop, 1) := by decide +kernel
theorem dJ0_checkBoundsBeginEnd_23922_10 : decode cJ0_checkBoundsBeginEnd_23922 10 = .ok (.return_, 1) := by decide +kernel
theorem dJ0_checkIndex_df160_0 : decode cJ0_checkIndex_df160 0 = .ok (.iload_n 0, 1) := by decide +kernel
theorem dJ0_checkIndex_df160_1 : decode cJ0_checkIndex_df160 1 = .ok (.iload_n 1, 1) := by decide +kernel
theorem dJ0_checkIndex_df160_2 : decode cJ0_checkIndex_df160 2 = .ok (.getstatic 1053, 3) := by decide +kernel
theorem dJ0_checkIndex_df160_5 : decode cJ0_checkIndex_df160 5 = .ok (.invokestatic 1059, 3) := by decide +kernel
theorem dJ0_checkIndex_df160_8 : decode cJ0_checkIndex_df160 8 = .ok (.pop, 1) := by decide +kernel
theorem dJ0_checkIndex_df160_9 : decode cJ0_checkIndex_df160 9 = .ok (.return_, 1) := by decide +kernel
theorem dJ0_coder_7d493_0 : decode cJ0_coder_7d493 0 = .ok (.getstatic 38, 3) := by decide +kernel
theorem dJ0_coder_7d493_3 : decode cJ0_coder_7d493 3 = .ok (.ifCond .eq 10, 3) := by decide +kernel
theorem dJ0_coder_7d493_6 : decode cJ0_coder_7d493 6 = .ok (.aload_n 0, 1) := by decide +kernel
theorem dJ0_coder_7d493_7 : decode cJ0_coder_7d493 7 = .ok (.getfield 15, 3) := by decide +kernel
theorem dJ0_coder_7d493_10 : decode cJ0_coder_7d493 10 = .ok (.goto 4, 3) := by decide +kernel
theorem dJ0_coder_7d493_13 : decode cJ0_coder_7d493 13 = .ok (.iconst 1, 1) := by decide +kernel
theorem dJ0_coder_7d493_14 : decode cJ0_coder_7d493 14 = .ok (.ireturn, 1) := by decide +kernel
theorem dJ0_indexOf_0f7a4_0 : decode cJ0_indexOf_0f7a4 0 = .ok (.aload_n 0, 1) := by decide +kernel
theorem dJ0_indexOf_0f7a4_1 : decode cJ0_indexOf_0f7a4 1 = .ok (.iload_n 1, 1) := by decide +kernel
theorem dJ0_indexOf_0f7a4_2 : decode cJ0_indexOf_0f7a4 2 = .ok (.iconst 0, 1) := by decide +kernel
theorem dJ0_indexOf_0f7a4_3 : decode cJ0_indexOf_0f7a4 3 = .ok (.invokevirtual 633, 3) := by decide +kernel
theorem dJ0_indexOf_0f7a4_6 : decode cJ0_indexOf_0f7a4 6 = .ok (.ireturn, 1) := by decide +kernel
theorem dJ0_indexOf_7cf53_0 : decode cJ0_indexOf_7cf53 0 = .ok (.aload_n 0, 1) := by decide +kernel
theorem dJ0_indexOf_7cf53_1 : decode cJ0_indexOf_7cf53 1 = .ok (.invokevirtual 492, 3) := by decide +kernel
theorem dJ0_indexOf_7cf53_4 : decode cJ0_indexOf_7cf53 4 = .ok (.ifCond .eq 19, 3) := by decide +kernel
theorem dJ0_indexOf_7cf53_7 : decode cJ0_indexOf_7cf53 7 = .ok (.aload_n 0, 1) := by decide +kernel
theorem dJ0_indexOf_7cf53_8 : decode cJ0_indexOf_7cf53 8 = .ok (.getfield 9, 3) := by decide +kernel
theorem dJ0_indexOf_7cf53_11 : decode cJ0_indexOf_7cf53 11 = .ok (.iload_n 1, 1) := by decide +kernel
theorem dJ0_indexOf_7cf53_12 : decode cJ0_indexOf_7cf53 12 = .ok (.iload_n 2, 1) := by decide +kernel
theorem dJ0_indexOf_7cf53_13 : decode cJ0_indexOf_7cf53 13 = .ok (.aload_n 0, 1) := by decide +kernel
theorem dJ0_indexOf_7cf53_14 : decode cJ0_indexOf_7cf53 14 = .ok (.invokevirtual 505, 3) := by decide +kernel
theorem dJ0_indexOf_7cf53_17 : decode cJ0_indexOf_7cf53 17 = .ok (.invokestatic 637, 3) := by decide +kernel
theorem dJ0_indexOf_7cf53_20 : decode cJ0_indexOf_7cf53 20 = .ok (.goto 16, 3) := by decide +kernel
theorem dJ0_indexOf_7cf53_23 : decode cJ0_indexOf_7cf53 23 = .ok (.aload_n 0, 1) := by decide +kernel
theorem dJ0_indexOf_7cf53_24 : decode cJ0_indexOf_7cf53 24 = .ok (.getfield 9, 3) := by decide +kernel
theorem dJ0_indexOf_7cf53_27 : decode cJ0_indexOf_7cf53 27 = .ok (.iload_n 1, 1) := by decide +kernel
theorem dJ0_indexOf_7cf53_28 : decode cJ0_indexOf_7cf53 28 = .ok (.iload_n 2, 1) := by decide +kernel
theorem dJ0_indexOf_7cf53_29 : decode cJ0_indexOf_7cf53 29 = .ok (.aload_n 0, 1) := by decide +kernel
theorem dJ0_indexOf_7cf53_30 : decode cJ0_indexOf_7cf53 30 = .ok (.invokevirtual 505, 3) := by decide +kernel
theorem dJ0_indexOf_7cf53_36 : decode cJ0_indexOf_7cf53 36 = .ok (.ireturn, 1) := by decide +kernel
theorem dJ0_isLatin1_aae02_0 : decode cJ0_isLatin1_aae02 0 = .ok (.getstatic 38, 3) := by decide +kernel
theorem dJ0_isLatin1_aae02_3 : decode cJ0_isLatin1_aae02 3 = .ok (.ifCond .eq 14, 3) := by decide +kernel
theorem dJ0_isLatin1_aae02_6 : decode cJ0_isLatin1_aae02 6 = .ok (.aload_n 0, 1) := by decide +kernel
theorem dJ0_isLatin1_aae02_7 : decode cJ0_isLatin1_aae02 7 = .ok (.getfield 15, 3) := by decide +kernel
theorem dJ0_isLatin1_aae02_10 : decode cJ0_isLatin1_aae02 10 = .ok (.ifCond .ne 7, 3) := by decide +kernel
theorem dJ0_isLatin1_aae02_13 : decode cJ0_isLatin1_aae02 13 = .ok (.iconst 1, 1) := by decide +kernel
theorem dJ0_isLatin1_aae02_14 : decode cJ0_isLatin1_aae02 14 = .ok (.goto 4, 3) := by decide +kernel
theorem dJ0_isLatin1_aae02_17 : decode cJ0_isLatin1_aae02 17 = .ok (.iconst 0, 1) := by decide +kernel
theorem dJ0_isLatin1_aae02_18 : decode cJ0_isLatin1_aae02 18 = .ok (.ireturn, 1) := by decide +kernel
theorem dJ0_length_8abf5_0 : decode cJ0_length_8abf5 0 = .ok (.aload_n 0, 1) := by decide +kernel
theorem dJ0_length_8abf5_1 : decode cJ0_length_8abf5 1 = .ok (.getfield 9, 3) := by decide +kernel
theorem dJ0_length_8abf5_4 : decode cJ0_length_8abf5 4 = .ok (.arraylength, 1) := by decide +kernel
theorem dJ0_length_8abf5_5 : decode cJ0_length_8abf5 5 = .ok (.aload_n 0, 1) := by decide +kernel
theorem dJ0_length_8abf5_6 : decode cJ0_length_8abf5 6 = .ok (.invokevirtual 335, 3) := by decide +kernel
theorem dJ0_length_8abf5_9 : decode cJ0_length_8abf5 9 = .ok (.ishr, 1) := by decide +kernel
theorem dJ0_length_8abf5_10 : decode cJ0_length_8abf5 10 = .ok (.ireturn, 1) := by decide +kernel
theorem dJ1_canEncode_9a6ad_0 : decode cJ1_canEncode_9a6ad 0 = .ok (.iload_n 0, 1) := by decide +kernel
theorem dJ1_canEncode_9a6ad_1 : decode cJ1_canEncode_9a6ad 1 = .ok (.ifCond .lt 14, 3) := by decide +kernel
theorem dJ1_canEncode_9a6ad_4 : decode cJ1_canEncode_9a6ad 4 = .ok (.iload_n 0, 1) := by decide +kernel
theorem dJ1_canEncode_9a6ad_5 : decode cJ1_canEncode_9a6ad 5 = .ok (.sipush 255, 3) := by decide +kernel
theorem dJ1_canEncode_9a6ad_8 : decode cJ1_canEncode_9a6ad 8 = .ok (.if_icmp .gt 7, 3) := by decide +kernel
theorem dJ1_canEncode_9a6ad_11 : decode cJ1_canEncode_9a6ad 11 = .ok (.iconst 1, 1) := by decide +kernel
theorem dJ1_canEncode_9a6ad_12 : decode cJ1_canEncode_9a6ad 12 = .ok (.goto 4, 3) := by decide +kernel
theorem dJ1_canEncode_9a6ad_15 : decode cJ1_canEncode_9a6ad 15 = .ok (.iconst 0, 1) := by decide +kernel
theorem dJ1_canEncode_9a6ad_16 : decode cJ1_canEncode_9a6ad 16 = .ok (.ireturn, 1) := by decide +kernel
theorem dJ1_charAt_3b067_0 : decode cJ1_charAt_3b067 0 = .ok (.iload_n 1, 1) := by decide +kernel
theorem dJ1_charAt_3b067_1 : decode cJ1_charAt_3b067 1 = .ok (.aload_n 0, 1) := by decide +kernel
theorem dJ1_charAt_3b067_2 : decode cJ1_charAt_3b067 2 = .ok (.arraylength, 1) := by decide +kernel
theorem dJ1_charAt_3b067_3 : decode cJ1_charAt_3b067 3 = .ok (.invokestatic 9, 3) := by decide +kernel
theorem dJ1_charAt_3b067_6 : decode cJ1_charAt_3b067 6 = .ok (.aload_n 0, 1) := by decide +kernel
theorem dJ1_charAt_3b067_7 : decode cJ1_charAt_3b067 7 = .ok (.iload_n 1, 1) := by decide +kernel
theorem dJ1_charAt_3b067_8 : decode cJ1_charAt_3b067 8 = .ok (.baload, 1) := by decide +kernel
theorem dJ1_charAt_3b067_9 : decode cJ1_charAt_3b067 9 = .ok (.sipush 255, 3) := by decide +kernel
theorem dJ1_charAt_3b067_12 : decode cJ1_charAt_3b067 12 = .ok (.iand, 1) := by decide +kernel
theorem dJ1_charAt_3b067_13 : decode cJ1_charAt_3b067 13 = .ok (.i2c, 1) := by decide +kernel
theorem dJ1_charAt_3b067_14 : decode cJ1_charAt_3b067 14 = .ok (.ireturn, 1) := by decide +kernel
theorem dJ1_indexOfChar_4cfef_0 : decode cJ1_indexOfChar_4cfef 0 = .ok (.iload_n 1, 1) := by decide +kernel
theorem dJ1_indexOfChar_4cfef_1 : decode cJ1_indexOfChar_4cfef 1 = .ok (.i2b, 1) := by decide +kernel
theorem dJ1_indexOfChar_4cfef_2 : decode cJ1_indexOfChar_4cfef 2 = .ok (.istore 4, 2) := by decide +kernel
theorem dJ1_indexOfChar_4cfef_4 : decode cJ1_indexOfChar_4cfef 4 = .ok (.iload_n 2, 1) := by decide +kernel
theorem dJ1_indexOfChar_4cfef_5 : decode cJ1_indexOfChar_4cfef 5 = .ok (.istore 5, 2) := by decide +kernel
theorem dJ1_indexOfChar_4cfef_7 : decode cJ1_indexOfChar_4cfef 7 = .ok (.iload 5, 2) := by decide +kernel
theorem dJ1_indexOfChar_4cfef_9 : decode cJ1_indexOfChar_4cfef 9 = .ok (.iload_n 3, 1) := by decide +kernel
theorem dJ1_indexOfChar_4cfef_10 : decode cJ1_indexOfChar_4cfef 10 = .ok (.if_icmp .ge 21, 3) := by decide +kernel
theorem dJ1_indexOfChar_4cfef_13 : decode cJ1_indexOfChar_4cfef 13 = .ok (.aload_n 0, 1) := by decide +kernel
theorem dJ1_indexOfChar_4cfef_14 : decode cJ1_indexOfChar_4cfef 14 = .ok (.iload 5, 2) := by decide +kernel
theorem dJ1_indexOfChar_4cfef_16 : decode cJ1_indexOfChar_4cfef 16 = .ok (.baload, 1) := by decide +kernel
theorem dJ1_indexOfChar_4cfef_17 : decode cJ1_indexOfChar_4cfef 17 = .ok (.iload 4, 2) := by decide +kernel
theorem dJ1_indexOfChar_4cfef_19 : decode cJ1_indexOfChar_4cfef 19 = .ok (.if_icmp .ne 6, 3) := by decide +kernel
theorem dJ1_indexOfChar_4cfef_22 : decode cJ1_indexOfChar_4cfef 22 = .ok (.iload 5, 2) := by decide +kernel
theorem dJ1_indexOfChar_4cfef_24 : decode cJ1_indexOfChar_4cfef 24 = .ok (.ireturn, 1) := by decide +kernel
theorem dJ1_indexOfChar_4cfef_25 : decode cJ1_indexOfChar_4cfef 25 = .ok (.iinc 5 1, 3) := by decide +kernel
theorem dJ1_indexOfChar_4cfef_28 : decode cJ1_indexOfChar_4cfef 28 = .ok (.goto (-21), 3) := by decide +kernel
theorem dJ1_indexOfChar_4cfef_31 : decode cJ1_indexOfChar_4cfef 31 = .ok (.iconst (-1), 1) := by decide +kernel
theorem dJ1_indexOfChar_4cfef_32 : decode cJ1_indexOfChar_4cfef 32 = .ok (.ireturn, 1) := by decide +kernel
theorem dJ1_indexOf_4cfef_0 : decode cJ1_indexOf_4cfef 0 = .ok (.iload_n 1, 1) := by decide +kernel
theorem dJ1_indexOf_4cfef_1 : decode cJ1_indexOf_4cfef 1 = .ok (.invokestatic 88, 3) := by decide +kernel
theorem dJ1_indexOf_4cfef_4 : decode cJ1_indexOf_4cfef 4 = .ok (.ifCond .ne 5, 3) := by decide +kernel
theorem dJ1_indexOf_4cfef_7 : decode cJ1_indexOf_4cfef 7 = .ok (.iconst (-1), 1) := by decide +kernel
theorem dJ1_indexOf_4cfef_8 : decode cJ1_indexOf_4cfef 8 = .ok (.ireturn, 1) := by decide +kernel
theorem dJ1_indexOf_4cfef_9 : decode cJ1_indexOf_4cfef 9 = .ok (.iload_n 2, 1) := by decide +kernel
theorem dJ1_indexOf_4cfef_10 : decode cJ1_indexOf_4cfef 10 = .ok (.iconst 0, 1) := by decide +kernel
theorem dJ1_indexOf_4cfef_11 : decode cJ1_indexOf_4cfef 11 = .ok (.invokestatic 92, 3) := by decide +kernel
theorem dJ1_indexOf_4cfef_14 : decode cJ1_indexOf_4cfef 14 = .ok (.istore_n 2, 1) := by decide +kernel
theorem dJ1_indexOf_4cfef_15 : decode cJ1_indexOf_4cfef 15 = .ok (.iload_n 3, 1) := by decide +kernel
theorem dJ1_indexOf_4cfef_16 : decode cJ1_indexOf_4cfef 16 = .ok (.aload_n 0, 1) := by decide +kernel
theorem dJ1_indexOf_4cfef_17 : decode cJ1_indexOf_4cfef 17 = .ok (.arraylength, 1) := by decide +kernel
theorem dJ1_indexOf_4cfef_18 : decode cJ1_indexOf_4cfef 18 = .ok (.invokestatic 38, 3) := by decide +kernel
theorem dJ1_indexOf_4cfef_21 : decode cJ1_indexOf_4cfef 21 = .ok (.istore_n 3, 1) := by decide +kernel
theorem dJ1_indexOf_4cfef_22 : decode cJ1_indexOf_4cfef 22 = .ok (.iload_n 2, 1) := by decide +kernel
theorem dJ1_indexOf_4cfef_23 : decode cJ1_indexOf_4cfef 23 = .ok (.iload_n 3, 1) := by decide +kernel
theorem dJ1_indexOf_4cfef_24 : decode cJ1_indexOf_4cfef 24 = .ok (.if_icmp .lt 5, 3) := by decide +kernel
theorem dJ1_indexOf_4cfef_27 : decode cJ1_indexOf_4cfef 27 = .ok (.iconst (-1), 1) := by decide +kernel
theorem dJ1_indexOf_4cfef_28 : decode cJ1_indexOf_4cfef 28 = .ok (.ireturn, 1) := by decide +kernel
theorem dJ1_indexOf_4cfef_29 : decode cJ1_indexOf_4cfef 29 = .ok (.aload_n 0, 1) := by decide +kernel
theorem dJ1_indexOf_4cfef_30 : decode cJ1_indexOf_4cfef 30 = .ok (.iload_n 1, 1) := by decide +kernel
theorem dJ1_indexOf_4cfef_31 : decode cJ1_indexOf_4cfef 31 = .ok (.iload_n 2, 1) := by decide +kernel
theorem dJ1_indexOf_4cfef_32 : decode cJ1_indexOf_4cfef 32 = .ok (.iload_n 3, 1) := by decide +kernel
theorem dJ1_indexOf_4cfef_33 : decode cJ1_indexOf_4cfef 33 = .ok (.invokestatic 95, 3) := by decide +kernel
theorem dJ1_indexOf_4cfef_36 : decode cJ1_indexOf_4cfef 36 = .ok (.ireturn, 1) := by decide +kernel
theorem dJ3_checkFromToIndex_8c36e_0 : decode cJ3_checkFromToIndex_8c36e 0 = .ok (.iload_n 0, 1) := by decide +kernel
theorem dJ3_checkFromToIndex_8c36e_1 : decode cJ3_checkFromToIndex_8c36e 1 = .ok (.ifCond .lt 13, 3) := by decide +kernel
theorem dJ3_checkFromToIndex_8c36e_4 : decode cJ3_checkFromToIndex_8c36e 4 = .ok (.iload_n 0, 1) := by decide +kernel
theorem dJ3_checkFromToIndex_8c36e_5 : decode cJ3_checkFromToIndex_8c36e 5 = .ok (.iload_n 1, 1) := by decide +kernel
theorem dJ3_checkFromToIndex_8c36e_6 : decode cJ3_checkFromToIndex_8c36e 6 = .ok (.if_icmp .gt 8, 3) := by decide +kernel
theorem dJ3_checkFromToIndex_8c36e_9 : decode cJ3_checkFromToIndex_8c36e 9 = .ok (.iload_n 1, 1) := by decide +kernel
theorem dJ3_checkFromToIndex_8c36e_10 : decode cJ3_checkFromToIndex_8c36e 10 = .ok (.iload_n 2, 1) := by decide +kernel
theorem dJ3_checkFromToIndex_8c36e_11 : decode cJ3_checkFromToIndex_8c36e 11 = .ok (.if_icmp .le 11, 3) := by decide +kernel
theorem dJ3_checkFromToIndex_8c36e_14 : decode cJ3_checkFromToIndex_8c36e 14 = .ok (.aload_n 3, 1) := by decide +kernel
theorem dJ3_checkFromToIndex_8c36e_15 : decode cJ3_checkFromToIndex_8c36e 15 = .ok (.iload_n 0, 1) := by decide +kernel
theorem dJ3_checkFromToIndex_8c36e_16 : decode cJ3_checkFromToIndex_8c36e 16 = .ok (.iload_n 1, 1) := by decide +kernel
theorem dJ3_checkFromToIndex_8c36e_17 : decode cJ3_checkFromToIndex_8c36e 17 = .ok (.iload_n 2, 1) := by decide +kernel
theorem dJ3_checkFromToIndex_8c36e_22 : decode cJ3_checkFromToIndex_8c36e 22 = .ok (.iload_n 0, 1) := by decide +kernel
theorem dJ3_checkFromToIndex_8c36e_23 : decode cJ3_checkFromToIndex_8c36e 23 = .ok (.ireturn, 1) := by decide +kernel
theorem dJ3_checkIndex_8e157_0 : decode cJ3_checkIndex_8e157 0 = .ok (.iload_n 0, 1) := by decide +kernel
theorem dJ3_checkIndex_8e157_1 : decode cJ3_checkIndex_8e157 1 = .ok (.ifCond .lt 8, 3) := by decide +kernel
theorem dJ3_checkIndex_8e157_4 : decode cJ3_checkIndex_8e157 4 = .ok (.iload_n 0, 1) := by decide +kernel
theorem dJ3_checkIndex_8e157_5 : decode cJ3_checkIndex_8e157 5 = .ok (.iload_n 1, 1) := by decide +kernel
theorem dJ3_checkIndex_8e157_6 : decode cJ3_checkIndex_8e157 6 = .ok (.if_icmp .lt 10, 3) := by decide +kernel
theorem dJ3_checkIndex_8e157_9 : decode cJ3_checkIndex_8e157 9 = .ok (.aload_n 2, 1) := by decide +kernel
theorem dJ3_checkIndex_8e157_10 : decode cJ3_checkIndex_8e157 10 = .ok (.iload_n 0, 1) := by decide +kernel
theorem dJ3_checkIndex_8e157_11 : decode cJ3_checkIndex_8e157 11 = .ok (.iload_n 1, 1) := by decide +kernel
theorem dJ3_checkIndex_8e157_16 : decode cJ3_checkIndex_8e157 16 = .ok (.iload_n 0, 1) := by decide +kernel
theorem dJ3_checkIndex_8e157_17 : decode cJ3_checkIndex_8e157 17 = .ok (.ireturn, 1) := by decide +kernel
theorem dJ6_bitCount_0f7a4_0 : decode cJ6_bitCount_0f7a4 0 = .ok (.iload_n 0, 1) := by decide +kernel
theorem dJ6_bitCount_0f7a4_1 : decode cJ6_bitCount_0f7a4 1 = .ok (.iload_n 0, 1) := by decide +kernel
theorem dJ6_bitCount_0f7a4_2 : decode cJ6_bitCount_0f7a4 2 = .ok (.iconst 1, 1) := by decide +kernel
theorem dJ6_bitCount_0f7a4_3 : decode cJ6_bitCount_0f7a4 3 = .ok (.iushr, 1) := by decide +kernel
theorem dJ6_bitCount_0f7a4_4 : decode cJ6_bitCount_0f7a4 4 = .ok (.ldc_w 265, 3) := by decide +kernel
theorem dJ6_bitCount_0f7a4_7 : decode cJ6_bitCount_0f7a4 7 = .ok (.iand, 1) := by decide +kernel
theorem dJ6_bitCount_0f7a4_8 : decode cJ6_bitCount_0f7a4 8 = .ok (.isub, 1) := by decide +kernel
theorem dJ6_bitCount_0f7a4_9 : decode cJ6_bitCount_0f7a4 9 = .ok (.istore_n 0, 1) := by decide +kernel
theorem dJ6_bitCount_0f7a4_10 : decode cJ6_bitCount_0f7a4 10 = .ok (.iload_n 0, 1) := by decide +kernel
theorem dJ6_bitCount_0f7a4_11 : decode cJ6_bitCount_0f7a4 11 = .ok (.ldc_w 266, 3) := by decide +kernel
theorem dJ6_bitCount_0f7a4_14 : decode cJ6_bitCount_0f7a4 14 = .ok (.iand, 1) := by decide +kernel
theorem dJ6_bitCount_0f7a4_15 : decode cJ6_bitCount_0f7a4 15 = .ok (.iload_n 0, 1) := by decide +kernel
theorem dJ6_bitCount_0f7a4_16 : decode cJ6_bitCount_0f7a4 16 = .ok (.iconst 2, 1) := by decide +kernel
theorem dJ6_bitCount_0f7a4_17 : decode cJ6_bitCount_0f7a4 17 = .ok (.iushr, 1) := by decide +kernel
theorem dJ6_bitCount_0f7a4_18 : decode cJ6_bitCount_0f7a4 18 = .ok (.ldc_w 266, 3) := by decide +kernel
theorem dJ6_bitCount_0f7a4_21 : decode cJ6_bitCount_0f7a4 21 = .ok (.iand, 1) := by decide +kernel
theorem dJ6_bitCount_0f7a4_22 : decode cJ6_bitCount_0f7a4 22 = .ok (.iadd, 1) := by decide +kernel
theorem dJ6_bitCount_0f7a4_23 : decode cJ6_bitCount_0f7a4 23 = .ok (.istore_n 0, 1) := by decide +kernel
theorem dJ6_bitCount_0f7a4_24 : decode cJ6_bitCount_0f7a4 24 = .ok (.iload_n 0, 1) := by decide +kernel
theorem dJ6_bitCount_0f7a4_25 : decode cJ6_bitCount_0f7a4 25 = .ok (.iload_n 0, 1) := by decide +kernel
theorem dJ6_bitCount_0f7a4_26 : decode cJ6_bitCount_0f7a4 26 = .ok (.iconst 4, 1) := by decide +kernel
theorem dJ6_bitCount_0f7a4_27 : decode cJ6_bitCount_0f7a4 27 = .ok (.iushr, 1) := by decide +kernel
theorem dJ6_bitCount_0f7a4_28 : decode cJ6_bitCount_0f7a4 28 = .ok (.iadd, 1) := by decide +kernel
theorem dJ6_bitCount_0f7a4_29 : decode cJ6_bitCount_0f7a4 29 = .ok (.ldc_w 267, 3) := by decide +kernel
theorem dJ6_bitCount_0f7a4_32 : decode cJ6_bitCount_0f7a4 32 = .ok (.iand, 1) := by decide +kernel
theorem dJ6_bitCount_0f7a4_33 : decode cJ6_bitCount_0f7a4 33 = .ok (.istore_n 0, 1) := by decide +kernel
theorem dJ6_bitCount_0f7a4_34 : decode cJ6_bitCount_0f7a4 34 = .ok (.iload_n 0, 1) := by decide +kernel
theorem dJ6_bitCount_0f7a4_35 : decode cJ6_bitCount_0f7a4 35 = .ok (.iload_n 0, 1) := by decide +kernel
theorem dJ6_bitCount_0f7a4_36 : decode cJ6_bitCount_0f7a4 36 = .ok (.bipush 8, 2) := by decide +kernel
theorem dJ6_bitCount_0f7a4_38 : decode cJ6_bitCount_0f7a4 38 = .ok (.iushr, 1) := by decide +kernel
theorem dJ6_bitCount_0f7a4_39 : decode cJ6_bitCount_0f7a4 39 = .ok (.iadd, 1) := by decide +kernel
theorem dJ6_bitCount_0f7a4_40 : decode cJ6_bitCount_0f7a4 40 = .ok (.istore_n 0, 1) := by decide +kernel
theorem dJ6_bitCount_0f7a4_41 : decode cJ6_bitCount_0f7a4 41 = .ok (.iload_n 0, 1) := by decide +kernel
theorem dJ6_bitCount_0f7a4_42 : decode cJ6_bitCount_0f7a4 42 = .ok (.iload_n 0, 1) := by decide +kernel
theorem dJ6_bitCount_0f7a4_43 : decode cJ6_bitCount_0f7a4 43 = .ok (.bipush 16, 2) := by decide +kernel
theorem dJ6_bitCount_0f7a4_45 : decode cJ6_bitCount_0f7a4 45 = .ok (.iushr, 1) := by decide +kernel
theorem dJ6_bitCount_0f7a4_46 : decode cJ6_bitCount_0f7a4 46 = .ok (.iadd, 1) := by decide +kernel
theorem dJ6_bitCount_0f7a4_47 : decode cJ6_bitCount_0f7a4 47 = .ok (.istore_n 0, 1) := by decide +kernel
theorem dJ6_bitCount_0f7a4_48 : decode cJ6_bitCount_0f7a4 48 = .ok (.iload_n 0, 1) := by decide +kernel
theorem dJ6_bitCount_0f7a4_49 : decode cJ6_bitCount_0f7a4 49 = .ok (.bipush 63, 2) := by decide +kernel
theorem dJ6_bitCount_0f7a4_51 : decode cJ6_bitCount_0f7a4 51 = .ok (.iand, 1) := by decide +kernel
theorem dJ6_bitCount_0f7a4_52 : decode cJ6_bitCount_0f7a4 52 = .ok (.ireturn, 1) := by decide +kernel
theorem dJ6_numberOfTrailingZeros_0f7a4_0 : decode cJ6_numberOfTrailingZeros_0f7a4 0 = .ok (.iload_n 0, 1) := by decide +kernel
theorem dJ6_numberOfTrailingZeros_0f7a4_1 : decode cJ6_numberOfTrailingZeros_0f7a4 1 = .ok (.iconst (-1), 1) := by decide +kernel
theorem dJ6_numberOfTrailingZeros_0f7a4_2 : decode cJ6_numberOfTrailingZeros_0f7a4 2 = .ok (.ixor, 1) := by decide +kernel
theorem dJ6_numberOfTrailingZeros_0f7a4_3 : decode cJ6_numberOfTrailingZeros_0f7a4 3 = .ok (.iload_n 0, 1) := by decide +kernel
theorem dJ6_numberOfTrailingZeros_0f7a4_4 : decode cJ6_numberOfTrailingZeros_0f7a4 4 = .ok (.iconst 1, 1) := by decide +kernel
theorem dJ6_numberOfTrailingZeros_0f7a4_5 : decode cJ6_numberOfTrailingZeros_0f7a4 5 = .ok (.isub, 1) := by decide +kernel
theorem dJ6_numberOfTrailingZeros_0f7a4_6 : decode cJ6_numberOfTrailingZeros_0f7a4 6 = .ok (.iand, 1) := by decide +kernel
theorem dJ6_numberOfTrailingZeros_0f7a4_7 : decode cJ6_numberOfTrailingZeros_0f7a4 7 = .ok (.istore_n 0, 1) := by decide +kernel
theorem dJ6_numberOfTrailingZeros_0f7a4_8 : decode cJ6_numberOfTrailingZeros_0f7a4 8 = .ok (.iload_n 0, 1) := by decide +kernel
theorem dJ6_numberOfTrailingZeros_0f7a4_9 : decode cJ6_numberOfTrailingZeros_0f7a4 9 = .ok (.ifCond .gt 8, 3) := by decide +kernel
theorem dJ6_numberOfTrailingZeros_0f7a4_12 : decode cJ6_numberOfTrailingZeros_0f7a4 12 = .ok (.iload_n 0, 1) := by decide +kernel
theorem dJ6_numberOfTrailingZeros_0f7a4_13 : decode cJ6_numberOfTrailingZeros_0f7a4 13 = .ok (.bipush 32, 2) := by decide +kernel
theorem dJ6_numberOfTrailingZeros_0f7a4_15 : decode cJ6_numberOfTrailingZeros_0f7a4 15 = .ok (.iand, 1) := by decide +kernel
theorem dJ6_numberOfTrailingZeros_0f7a4_16 : decode cJ6_numberOfTrailingZeros_0f7a4 16 = .ok (.ireturn, 1) := by decide +kernel
theorem dJ6_numberOfTrailingZeros_0f7a4_17 : decode cJ6_numberOfTrailingZeros_0f7a4 17 = .ok (.iconst 1, 1) := by decide +kernel
theorem dJ6_numberOfTrailingZeros_0f7a4_18 : decode cJ6_numberOfTrailingZeros_0f7a4 18 = .ok (.istore_n 1, 1) := by decide +kernel
theorem dJ6_numberOfTrailingZeros_0f7a4_19 : decode cJ6_numberOfTrailingZeros_0f7a4 19 = .ok (.iload_n 0, 1) := by decide +kernel
theorem dJ6_numberOfTrailingZeros_0f7a4_20 : decode cJ6_numberOfTrailingZeros_0f7a4 20 = .ok (.ldc_w 264, 3) := by decide +kernel
theorem dJ6_numberOfTrailingZeros_0f7a4_23 : decode cJ6_numberOfTrailingZeros_0f7a4 23 = .ok (.if_icmp .le 11, 3) := by decide +kernel
theorem dJ6_numberOfTrailingZeros_0f7a4_26 : decode cJ6_numberOfTrailingZeros_0f7a4 26 = .ok (.iinc 1 16, 3) := by decide +kernel
theorem dJ6_numberOfTrailingZeros_0f7a4_29 : decode cJ6_numberOfTrailingZeros_0f7a4 29 = .ok (.iload_n 0, 1) := by decide +kernel
theorem dJ6_numberOfTrailingZeros_0f7a4_30 : decode cJ6_numberOfTrailingZeros_0f7a4 30 = .ok (.bipush 16, 2) := by decide +kernel
theorem dJ6_numberOfTrailingZeros_0f7a4_32 : decode cJ6_numberOfTrailingZeros_0f7a4 32 = .ok (.iushr, 1) := by decide +kernel
theorem dJ6_numberOfTrailingZeros_0f7a4_33 : decode cJ6_numberOfTrailingZeros_0f7a4 33 = .ok (.istore_n 0, 1) := by decide +kernel
theorem dJ6_numberOfTrailingZeros_0f7a4_34 : decode cJ6_numberOfTrailingZeros_0f7a4 34 = .ok (.iload_n 0, 1) := by decide +kernel
theorem dJ6_numberOfTrailingZeros_0f7a4_35 : decode cJ6_numberOfTrailingZeros_0f7a4 35 = .ok (.sipush 256, 3) := by decide +kernel
theorem dJ6_numberOfTrailingZeros_0f7a4_38 : decode cJ6_numberOfTrailingZeros_0f7a4 38 = .ok (.if_icmp .le 11, 3) := by decide +kernel
theorem dJ6_numberOfTrailingZeros_0f7a4_41 : decode cJ6_numberOfTrailingZeros_0f7a4 41 = .ok (.iinc 1 8, 3) := by decide +kernel
theorem dJ6_numberOfTrailingZeros_0f7a4_44 : decode cJ6_numberOfTrailingZeros_0f7a4 44 = .ok (.iload_n 0, 1) := by decide +kernel
theorem dJ6_numberOfTrailingZeros_0f7a4_45 : decode cJ6_numberOfTrailingZeros_0f7a4 45 = .ok (.bipush 8, 2) := by decide +kernel
theorem dJ6_numberOfTrailingZeros_0f7a4_47 : decode cJ6_numberOfTrailingZeros_0f7a4 47 = .ok (.iushr, 1) := by decide +kernel
theorem dJ6_numberOfTrailingZeros_0f7a4_48 : decode cJ6_numberOfTrailingZeros_0f7a4 48 = .ok (.istore_n 0, 1) := by decide +kernel
theorem dJ6_numberOfTrailingZeros_0f7a4_49 : decode cJ6_numberOfTrailingZeros_0f7a4 49 = .ok (.iload_n 0, 1) := by decide +kernel
theorem dJ6_numberOfTrailingZeros_0f7a4_50 : decode cJ6_numberOfTrailingZeros_0f7a4 50 = .ok (.bipush 16, 2) := by decide +kernel
theorem dJ6_numberOfTrailingZeros_0f7a4_52 : decode cJ6_numberOfTrailingZeros_0f7a4 52 = .ok (.if_icmp .le 10, 3) := by decide +kernel
theorem dJ6_numberOfTrailingZeros_0f7a4_55 : decode cJ6_numberOfTrailingZeros_0f7a4 55 = .ok (.iinc 1 4, 3) := by decide +kernel
theorem dJ6_numberOfTrailingZeros_0f7a4_58 : decode cJ6_numberOfTrailingZeros_0f7a4 58 = .ok (.iload_n 0, 1) := by decide +kernel
theorem dJ6_numberOfTrailingZeros_0f7a4_59 : decode cJ6_numberOfTrailingZeros_0f7a4 59 = .ok (.iconst 4, 1) := by decide +kernel
theorem dJ6_numberOfTrailingZeros_0f7a4_60 : decode cJ6_numberOfTrailingZeros_0f7a4 60 = .ok (.iushr, 1) := by decide +kernel
theorem dJ6_numberOfTrailingZeros_0f7a4_61 : decode cJ6_numberOfTrailingZeros_0f7a4 61 = .ok (.istore_n 0, 1) := by decide +kernel
theorem dJ6_numberOfTrailingZeros_0f7a4_62 : decode cJ6_numberOfTrailingZeros_0f7a4 62 = .ok (.iload_n 0, 1) := by decide +kernel
theorem dJ6_numberOfTrailingZeros_0f7a4_63 : decode cJ6_numberOfTrailingZeros_0f7a4 63 = .ok (.iconst 4, 1) := by decide +kernel
theorem dJ6_numberOfTrailingZeros_0f7a4_64 : decode cJ6_numberOfTrailingZeros_0f7a4 64 = .ok (.if_icmp .le 10, 3) := by decide +kernel
theorem dJ6_numberOfTrailingZeros_0f7a4_67 : decode cJ6_numberOfTrailingZeros_0f7a4 67 = .ok (.iinc 1 2, 3) := by decide +kernel
theorem dJ6_numberOfTrailingZeros_0f7a4_70 : decode cJ6_numberOfTrailingZeros_0f7a4 70 = .ok (.iload_n 0, 1) := by decide +kernel
theorem dJ6_numberOfTrailingZeros_0f7a4_71 : decode cJ6_numberOfTrailingZeros_0f7a4 71 = .ok (.iconst 2, 1) := by decide +kernel
theorem dJ6_numberOfTrailingZeros_0f7a4_72 : decode cJ6_numberOfTrailingZeros_0f7a4 72 = .ok (.iushr, 1) := by decide +kernel
theorem dJ6_numberOfTrailingZeros_0f7a4_73 : decode cJ6_numberOfTrailingZeros_0f7a4 73 = .ok (.istore_n 0, 1) := by decide +kernel
theorem dJ6_numberOfTrailingZeros_0f7a4_74 : decode cJ6_numberOfTrailingZeros_0f7a4 74 = .ok (.iload_n 1, 1) := by decide +kernel
theorem dJ6_numberOfTrailingZeros_0f7a4_75 : decode cJ6_numberOfTrailingZeros_0f7a4 75 = .ok (.iload_n 0, 1) := by decide +kernel
theorem dJ6_numberOfTrailingZeros_0f7a4_76 : decode cJ6_numberOfTrailingZeros_0f7a4 76 = .ok (.iconst 1, 1) := by decide +kernel
theorem dJ6_numberOfTrailingZeros_0f7a4_77 : decode cJ6_numberOfTrailingZeros_0f7a4 77 = .ok (.iushr, 1) := by decide +kernel
theorem dJ6_numberOfTrailingZeros_0f7a4_78 : decode cJ6_numberOfTrailingZeros_0f7a4 78 = .ok (.iadd, 1) := by decide +kernel
theorem dJ6_numberOfTrailingZeros_0f7a4_79 : decode cJ6_numberOfTrailingZeros_0f7a4 79 = .ok (.ireturn, 1) := by decide +kernel
theorem dJ7_fill_53178_0 : decode cJ7_fill_53178 0 = .ok (.iconst 0, 1) := by decide +kernel
theorem dJ7_fill_53178_1 : decode cJ7_fill_53178 1 = .ok (.istore_n 2, 1) := by decide +kernel
theorem dJ7_fill_53178_2 : decode cJ7_fill_53178 2 = .ok (.aload_n 0, 1) := by decide +kernel
theorem dJ7_fill_53178_3 : decode cJ7_fill_53178 3 = .ok (.arraylength, 1) := by decide +kernel
theorem dJ7_fill_53178_4 : decode cJ7_fill_53178 4 = .ok (.istore_n 3, 1) := by decide +kernel
theorem dJ7_fill_53178_5 : decode cJ7_fill_53178 5 = .ok (.iload_n 2, 1) := by decide +kernel
theorem dJ7_fill_53178_6 : decode cJ7_fill_53178 6 = .ok (.iload_n 3, 1) := by decide +kernel
theorem dJ7_fill_53178_7 : decode cJ7_fill_53178 7 = .ok (.if_icmp .ge 13, 3) := by decide +kernel
theorem dJ7_fill_53178_10 : decode cJ7_fill_53178 10 = .ok (.aload_n 0, 1) := by decide +kernel
theorem dJ7_fill_53178_11 : decode cJ7_fill_53178 11 = .ok (.iload_n 2, 1) := by decide +kernel
theorem dJ7_fill_53178_12 : decode cJ7_fill_53178 12 = .ok (.iload_n 1, 1) := by decide +kernel
theorem dJ7_fill_53178_13 : decode cJ7_fill_53178 13 = .ok (.iastore, 1) := by decide +kernel
theorem dJ7_fill_53178_14 : decode cJ7_fill_53178 14 = .ok (.iinc 2 1, 3) := by decide +kernel
theorem dJ7_fill_53178_17 : decode cJ7_fill_53178 17 = .ok (.goto (-12), 3) := by decide +kernel
theorem dJ7_fill_53178_20 : decode cJ7_fill_53178 20 = .ok (.return_, 1) := by decide +kernel
theorem dJ7_fill_d0a16_0 : decode cJ7_fill_d0a16 0 = .ok (.iconst 0, 1) := by decide +kernel
theorem dJ7_fill_d0a16_1 : decode cJ7_fill_d0a16 1 = .ok (.istore_n 3, 1) := by decide +kernel
theorem dJ7_fill_d0a16_2 : decode cJ7_fill_d0a16 2 = .ok (.aload_n 0, 1) := by decide +kernel
theorem dJ7_fill_d0a16_3 : decode cJ7_fill_d0a16 3 = .ok (.arraylength, 1) := by decide +kernel
theorem dJ7_fill_d0a16_4 : decode cJ7_fill_d0a16 4 = .ok (.istore 4, 2) := by decide +kernel
theorem dJ7_fill_d0a16_6 : decode cJ7_fill_d0a16 6 = .ok (.iload_n 3, 1) := by decide +kernel
theorem dJ7_fill_d0a16_7 : decode cJ7_fill_d0a16 7 = .ok (.iload 4, 2) := by decide +kernel
theorem dJ7_fill_d0a16_9 : decode cJ7_fill_d0a16 9 = .ok (.if_icmp .ge 13, 3) := by decide +kernel
theorem dJ7_fill_d0a16_12 : decode cJ7_fill_d0a16 12 = .ok (.aload_n 0, 1) := by decide +kernel
theorem dJ7_fill_d0a16_13 : decode cJ7_fill_d0a16 13 = .ok (.iload_n 3, 1) := by decide +kernel
theorem dJ7_fill_d0a16_14 : decode cJ7_fill_d0a16 14 = .ok (.lload_n 1, 1) := by decide +kernel
theorem dJ7_fill_d0a16_15 : decode cJ7_fill_d0a16 15 = .ok (.lastore, 1) := by decide +kernel
theorem dJ7_fill_d0a16_16 : decode cJ7_fill_d0a16 16 = .ok (.iinc 3 1, 3) := by decide +kernel
theorem dJ7_fill_d0a16_19 : decode cJ7_fill_d0a16 19 = .ok (.goto (-13), 3) := by decide +kernel
theorem dJ7_fill_d0a16_22 : decode cJ7_fill_d0a16 22 = .ok (.return_, 1) := by decide +kernel
theorem dX0_areTwo_0 : decode cX0_areTwo 0 = .ok (.aload_n 0, 1) := by decide +kernel
theorem dX0_areTwo_1 : decode cX0_areTwo 1 = .ok (.iload_n 1, 1) := by decide +kernel
theorem dX0_areTwo_2 : decode cX0_areTwo 2 = .ok (.invokevirtual 47, 3) := by decide +kernel
theorem dX0_areTwo_5 : decode cX0_areTwo 5 = .ok (.ifCond .eq 20, 3) := by decide +kernel
theorem dX0_areTwo_8 : decode cX0_areTwo 8 = .ok (.aload_n 0, 1) := by decide +kernel
theorem dX0_areTwo_9 : decode cX0_areTwo 9 = .ok (.iload_n 2, 1) := by decide +kernel
theorem dX0_areTwo_10 : decode cX0_areTwo 10 = .ok (.invokevirtual 47, 3) := by decide +kernel
theorem dX0_areTwo_13 : decode cX0_areTwo 13 = .ok (.ifCond .eq 12, 3) := by decide +kernel
theorem dX0_areTwo_16 : decode cX0_areTwo 16 = .ok (.iload_n 1, 1) := by decide +kernel
theorem dX0_areTwo_17 : decode cX0_areTwo 17 = .ok (.iload_n 2, 1) := by decide +kernel
theorem dX0_areTwo_18 : decode cX0_areTwo 18 = .ok (.if_icmp .eq 7, 3) := by decide +kernel
theorem dX0_areTwo_21 : decode cX0_areTwo 21 = .ok (.iconst 1, 1) := by decide +kernel
theorem dX0_areTwo_22 : decode cX0_areTwo 22 = .ok (.goto 4, 3) := by decide +kernel
theorem dX0_areTwo_25 : decode cX0_areTwo 25 = .ok (.iconst 0, 1) := by decide +kernel
theorem dX0_areTwo_26 : decode cX0_areTwo 26 = .ok (.ireturn, 1) := by decide +kernel
theorem dX0_differ_0 : decode cX0_differ 0 = .ok (.aload_n 0, 1) := by decide +kernel
theorem dX0_differ_1 : decode cX0_differ 1 = .ok (.getfield 18, 3) := by decide +kernel
theorem dX0_differ_4 : decode cX0_differ 4 = .ok (.iload_n 1, 1) := by decide +kernel
theorem dX0_differ_5 : decode cX0_differ 5 = .ok (.iaload, 1) := by decide +kernel
theorem dX0_differ_6 : decode cX0_differ 6 = .ok (.aload_n 0, 1) := by decide +kernel
theorem dX0_differ_7 : decode cX0_differ 7 = .ok (.getfield 18, 3) := by decide +kernel
theorem dX0_differ_10 : decode cX0_differ 10 = .ok (.iload_n 2, 1) := by decide +kernel
theorem dX0_differ_11 : decode cX0_differ 11 = .ok (.iaload, 1) := by decide +kernel
theorem dX0_differ_12 : decode cX0_differ 12 = .ok (.isub, 1) := by decide +kernel
theorem dX0_differ_13 : decode cX0_differ 13 = .ok (.invokestatic 51, 3) := by decide +kernel
theorem dX0_differ_16 : decode cX0_differ 16 = .ok (.ireturn, 1) := by decide +kernel
theorem dX0_hardBy_0 : decode cX0_hardBy 0 = .ok (.aload_n 0, 1) := by decide +kernel
theorem dX0_hardBy_1 : decode cX0_hardBy 1 = .ok (.getfield 21, 3) := by decide +kernel
theorem dX0_hardBy_4 : decode cX0_hardBy 4 = .ok (.iconst 0, 1) := by decide +kernel
theorem dX0_hardBy_5 : decode cX0_hardBy 5 = .ok (.iload 4, 2) := by decide +kernel
theorem dX0_hardBy_7 : decode cX0_hardBy 7 = .ok (.iastore, 1) := by decide +kernel
theorem dX0_hardBy_8 : decode cX0_hardBy 8 = .ok (.aload_n 0, 1) := by decide +kernel
theorem dX0_hardBy_9 : decode cX0_hardBy 9 = .ok (.getfield 21, 3) := by decide +kernel
theorem dX0_hardBy_12 : decode cX0_hardBy 12 = .ok (.iconst 1, 1) := by decide +kernel
theorem dX0_hardBy_13 : decode cX0_hardBy 13 = .ok (.aload_n 2, 1) := by decide +kernel
theorem dX0_hardBy_14 : decode cX0_hardBy 14 = .ok (.getfield 82, 3) := by decide +kernel
theorem dX0_hardBy_17 : decode cX0_hardBy 17 = .ok (.iload_n 3, 1) := by decide +kernel
theorem dX0_hardBy_18 : decode cX0_hardBy 18 = .ok (.iaload, 1) := by decide +kernel
theorem dX0_hardBy_19 : decode cX0_hardBy 19 = .ok (.iastore, 1) := by decide +kernel
theorem dX0_hardBy_20 : decode cX0_hardBy 20 = .ok (.aload_n 0, 1) := by decide +kernel
theorem dX0_hardBy_21 : decode cX0_hardBy 21 = .ok (.getfield 21, 3) := by decide +kernel
theorem dX0_hardBy_24 : decode cX0_hardBy 24 = .ok (.iconst 2, 1) := by decide +kernel
theorem dX0_hardBy_25 : decode cX0_hardBy 25 = .ok (.aload_n 0, 1) := by decide +kernel
theorem dX0_hardBy_26 : decode cX0_hardBy 26 = .ok (.getfield 18, 3) := by decide +kernel
theorem dX0_hardBy_29 : decode cX0_hardBy 29 = .ok (.iload_n 3, 1) := by decide +kernel
theorem dX0_hardBy_30 : decode cX0_hardBy 30 = .ok (.iaload, 1) := by decide +kernel
theorem dX0_hardBy_31 : decode cX0_hardBy 31 = .ok (.iastore, 1) := by decide +kernel
theorem dX0_hardBy_32 : decode cX0_hardBy 32 = .ok (.aload_n 0, 1) := by decide +kernel
theorem dX0_hardBy_33 : decode cX0_hardBy 33 = .ok (.getfield 21, 3) := by decide +kernel
theorem dX0_hardBy_36 : decode cX0_hardBy 36 = .ok (.iconst 3, 1) := by decide +kernel
theorem dX0_hardBy_37 : decode cX0_hardBy 37 = .ok (.aload_n 0, 1) := by decide +kernel
theorem dX0_hardBy_38 : decode cX0_hardBy 38 = .ok (.getfield 15, 3) := by decide +kernel
theorem dX0_hardBy_41 : decode cX0_hardBy 41 = .ok (.iload_n 3, 1) := by decide +kernel
theorem dX0_hardBy_42 : decode cX0_hardBy 42 = .ok (.iaload, 1) := by decide +kernel
theorem dX0_hardBy_43 : decode cX0_hardBy 43 = .ok (.iastore, 1) := by decide +kernel
theorem dX0_hardBy_44 : decode cX0_hardBy 44 = .ok (.aload_n 0, 1) := by decide +kernel
theorem dX0_hardBy_45 : decode cX0_hardBy 45 = .ok (.getfield 21, 3) := by decide +kernel
theorem dX0_hardBy_48 : decode cX0_hardBy 48 = .ok (.iconst 4, 1) := by decide +kernel
theorem dX0_hardBy_49 : decode cX0_hardBy 49 = .ok (.iload_n 3, 1) := by decide +kernel
theorem dX0_hardBy_50 : decode cX0_hardBy 50 = .ok (.iastore, 1) := by decide +kernel
theorem dX0_hardBy_51 : decode cX0_hardBy 51 = .ok (.aload_n 0, 1) := by decide +kernel
theorem dX0_hardBy_52 : decode cX0_hardBy 52 = .ok (.getfield 21, 3) := by decide +kernel
theorem dX0_hardBy_55 : decode cX0_hardBy 55 = .ok (.iconst 5, 1) := by decide +kernel
theorem dX0_hardBy_56 : decode cX0_hardBy 56 = .ok (.aload_n 2, 1) := by decide +kernel
theorem dX0_hardBy_57 : decode cX0_hardBy 57 = .ok (.getfield 87, 3) := by decide +kernel
theorem dX0_hardBy_60 : decode cX0_hardBy 60 = .ok (.bipush 7, 2) := by decide +kernel
theorem dX0_hardBy_62 : decode cX0_hardBy 62 = .ok (.irem, 1) := by decide +kernel
theorem dX0_hardBy_63 : decode cX0_hardBy 63 = .ok (.iastore, 1) := by decide +kernel
theorem dX0_hardBy_64 : decode cX0_hardBy 64 = .ok (.aload_n 0, 1) := by decide +kernel
theorem dX0_hardBy_65 : decode cX0_hardBy 65 = .ok (.getfield 21, 3) := by decide +kernel
theorem dX0_hardBy_68 : decode cX0_hardBy 68 = .ok (.bipush 6, 2) := by decide +kernel
theorem dX0_hardBy_70 : decode cX0_hardBy 70 = .ok (.aload_n 0, 1) := by decide +kernel
theorem dX0_hardBy_71 : decode cX0_hardBy 71 = .ok (.getfield 9, 3) := by decide +kernel
theorem dX0_hardBy_74 : decode cX0_hardBy 74 = .ok (.iload_n 3, 1) := by decide +kernel
theorem dX0_hardBy_75 : decode cX0_hardBy 75 = .ok (.iaload, 1) := by decide +kernel
theorem dX0_hardBy_76 : decode cX0_hardBy 76 = .ok (.invokestatic 90, 3) := by decide +kernel
theorem dX0_hardBy_79 : decode cX0_hardBy 79 = .ok (.iastore, 1) := by decide +kernel
theorem dX0_hardBy_80 : decode cX0_hardBy 80 = .ok (.aload_n 1, 1) := by decide +kernel
theorem dX0_hardBy_81 : decode cX0_hardBy 81 = .ok (.aload_n 0, 1) := by decide +kernel
theorem dX0_hardBy_82 : decode cX0_hardBy 82 = .ok (.getfield 21, 3) := by decide +kernel
theorem dX0_hardBy_85 : decode cX0_hardBy 85 = .ok (.invokevirtual 95, 3) := by decide +kernel
theorem dX0_hardBy_88 : decode cX0_hardBy 88 = .ok (.iconst 0, 1) := by decide +kernel
theorem dX0_hardBy_89 : decode cX0_hardBy 89 = .ok (.sipush 999, 3) := by decide +kernel
theorem dX0_hardBy_92 : decode cX0_hardBy 92 = .ok (.invokestatic 99, 3) := by decide +kernel
theorem dX0_hardBy_95 : decode cX0_hardBy 95 = .ok (.ireturn, 1) := by decide +kernel
theorem dX0_has_0 : decode cX0_has 0 = .ok (.iload_n 1, 1) := by decide +kernel
theorem dX0_has_1 : decode cX0_has 1 = .ok (.ifCond .lt 15, 3) := by decide +kernel
theorem dX0_has_4 : decode cX0_has 4 = .ok (.iload_n 1, 1) := by decide +kernel
theorem dX0_has_5 : decode cX0_has 5 = .ok (.aload_n 0, 1) := by decide +kernel
theorem dX0_has_6 : decode cX0_has 6 = .ok (.getfield 44, 3) := by decide +kernel
theorem dX0_has_9 : decode cX0_has 9 = .ok (.if_icmp .ge 7, 3) := by decide +kernel
theorem dX0_has_12 : decode cX0_has 12 = .ok (.iconst 1, 1) := by decide +kernel
theorem dX0_has_13 : decode cX0_has 13 = .ok (.goto 4, 3) := by decide +kernel
theorem dX0_has_16 : decode cX0_has 16 = .ok (.iconst 0, 1) := by decide +kernel
theorem dX0_has_17 : decode cX0_has 17 = .ok (.ireturn, 1) := by decide +kernel
theorem dX0_init_0 : decode cX0_init 0 = .ok (.aload_n 0, 1) := by decide +kernel
theorem dX0_init_1 : decode cX0_init 1 = .ok (.invokespecial 3, 3) := by decide +kernel
theorem dX0_init_4 : decode cX0_init 4 = .ok (.aload_n 0, 1) := by decide +kernel
theorem dX0_init_5 : decode cX0_init 5 = .ok (.bipush 8, 2) := by decide +kernel
theorem dX0_init_7 : decode cX0_init 7 = .ok (.newarray .int, 2) := by decide +kernel
theorem dX0_init_9 : decode cX0_init 9 = .ok (.putfield 9, 3) := by decide +kernel
theorem dX0_init_12 : decode cX0_init 12 = .ok (.aload_n 0, 1) := by decide +kernel
theorem dX0_init_13 : decode cX0_init 13 = .ok (.bipush 8, 2) := by decide +kernel
theorem dX0_init_15 : decode cX0_init 15 = .ok (.newarray .int, 2) := by decide +kernel
theorem dX0_init_17 : decode cX0_init 17 = .ok (.putfield 15, 3) := by decide +kernel
theorem dX0_init_20 : decode cX0_init 20 = .ok (.aload_n 0, 1) := by decide +kernel
theorem dX0_init_21 : decode cX0_init 21 = .ok (.bipush 8, 2) := by decide +kernel
theorem dX0_init_23 : decode cX0_init 23 = .ok (.newarray .int, 2) := by decide +kernel
theorem dX0_init_25 : decode cX0_init 25 = .ok (.putfield 18, 3) := by decide +kernel
theorem dX0_init_28 : decode cX0_init 28 = .ok (.aload_n 0, 1) := by decide +kernel
theorem dX0_init_29 : decode cX0_init 29 = .ok (.bipush 7, 2) := by decide +kernel
theorem dX0_init_31 : decode cX0_init 31 = .ok (.newarray .int, 2) := by decide +kernel
theorem dX0_init_33 : decode cX0_init 33 = .ok (.putfield 21, 3) := by decide +kernel
theorem dX0_init_36 : decode cX0_init 36 = .ok (.aload_n 0, 1) := by decide +kernel
theorem dX0_init_37 : decode cX0_init 37 = .ok (.bipush 8, 2) := by decide +kernel
theorem dX0_init_39 : decode cX0_init 39 = .ok (.newarray .int, 2) := by decide +kernel
theorem dX0_init_41 : decode cX0_init 41 = .ok (.putfield 24, 3) := by decide +kernel
theorem dX0_init_44 : decode cX0_init 44 = .ok (.aload_n 0, 1) := by decide +kernel
theorem dX0_init_45 : decode cX0_init 45 = .ok (.bipush 8, 2) := by decide +kernel
theorem dX0_init_47 : decode cX0_init 47 = .ok (.newarray .int, 2) := by decide +kernel
theorem dX0_init_49 : decode cX0_init 49 = .ok (.putfield 27, 3) := by decide +kernel
theorem dX0_init_52 : decode cX0_init 52 = .ok (.aload_n 0, 1) := by decide +kernel
theorem dX0_init_53 : decode cX0_init 53 = .ok (.bipush 8, 2) := by decide +kernel
theorem dX0_init_55 : decode cX0_init 55 = .ok (.putfield 30, 3) := by decide +kernel
theorem dX0_init_58 : decode cX0_init 58 = .ok (.aload_n 0, 1) := by decide +kernel
theorem dX0_init_59 : decode cX0_init 59 = .ok (.iconst 4, 1) := by decide +kernel
theorem dX0_init_60 : decode cX0_init 60 = .ok (.putfield 34, 3) := by decide +kernel
theorem dX0_init_63 : decode cX0_init 63 = .ok (.aload_n 0, 1) := by decide +kernel
theorem dX0_init_64 : decode cX0_init 64 = .ok (.new 37, 3) := by decide +kernel
theorem dX0_init_67 : decode cX0_init 67 = .ok (.dup, 1) := by decide +kernel
theorem dX0_init_68 : decode cX0_init 68 = .ok (.invokespecial 39, 3) := by decide +kernel
theorem dX0_init_71 : decode cX0_init 71 = .ok (.putfield 40, 3) := by decide +kernel
theorem dX0_init_74 : decode cX0_init 74 = .ok (.return_, 1) := by decide +kernel
theorem dX0_isAble_0 : decode cX0_isAble 0 = .ok (.aload_n 0, 1) := by decide +kernel
theorem dX0_isAble_1 : decode cX0_isAble 1 = .ok (.iload_n 2, 1) := by decide +kernel
theorem dX0_isAble_2 : decode cX0_isAble 2 = .ok (.invokevirtual 47, 3) := by decide +kernel
theorem dX0_isAble_5 : decode cX0_isAble 5 = .ok (.ifCond .eq 29, 3) := by decide +kernel
theorem dX0_isAble_8 : decode cX0_isAble 8 = .ok (.aload_n 0, 1) := by decide +kernel
theorem dX0_isAble_9 : decode cX0_isAble 9 = .ok (.getfield 9, 3) := by decide +kernel
theorem dX0_isAble_12 : decode cX0_isAble 12 = .ok (.iload_n 2, 1) := by decide +kernel
theorem dX0_isAble_13 : decode cX0_isAble 13 = .ok (.iaload, 1) := by decide +kernel
theorem dX0_isAble_14 : decode cX0_isAble 14 = .ok (.iload_n 3, 1) := by decide +kernel
theorem dX0_isAble_15 : decode cX0_isAble 15 = .ok (.ishr, 1) := by decide +kernel
theorem dX0_isAble_16 : decode cX0_isAble 16 = .ok (.iconst 1, 1) := by decide +kernel
theorem dX0_isAble_17 : decode cX0_isAble 17 = .ok (.iand, 1) := by decide +kernel
theorem dX0_isAble_18 : decode cX0_isAble 18 = .ok (.iconst 1, 1) := by decide +kernel
theorem dX0_isAble_19 : decode cX0_isAble 19 = .ok (.if_icmp .ne 15, 3) := by decide +kernel
theorem dX0_isAble_22 : decode cX0_isAble 22 = .ok (.aload_n 1, 1) := by decide +kernel
theorem dX0_isAble_23 : decode cX0_isAble 23 = .ok (.iload_n 2, 1) := by decide +kernel
theorem dX0_isAble_24 : decode cX0_isAble 24 = .ok (.invokevirtual 102, 3) := by decide +kernel
theorem dX0_isAble_27 : decode cX0_isAble 27 = .ok (.ifCond .ne 7, 3) := by decide +kernel
theorem dX0_isAble_30 : decode cX0_isAble 30 = .ok (.iconst 1, 1) := by decide +kernel
theorem dX0_isAble_31 : decode cX0_isAble 31 = .ok (.goto 4, 3) := by decide +kernel
theorem dX0_isAble_34 : decode cX0_isAble 34 = .ok (.iconst 0, 1) := by decide +kernel
theorem dX0_isAble_35 : decode cX0_isAble 35 = .ok (.ireturn, 1) := by decide +kernel
theorem dX0_isSomebodyOrNobody_0 : decode cX0_isSomebodyOrNobody 0 = .ok (.iload_n 1, 1) := by decide +kernel
theorem dX0_isSomebodyOrNobody_1 : decode cX0_isSomebodyOrNobody 1 = .ok (.iconst (-1), 1) := by decide +kernel
theorem dX0_isSomebodyOrNobody_2 : decode cX0_isSomebodyOrNobody 2 = .ok (.if_icmp .eq 11, 3) := by decide +kernel
theorem dX0_isSomebodyOrNobody_5 : decode cX0_isSomebodyOrNobody 5 = .ok (.aload_n 0, 1) := by decide +kernel
theorem dX0_isSomebodyOrNobody_6 : decode cX0_isSomebodyOrNobody 6 = .ok (.iload_n 1, 1) := by decide +kernel
theorem dX0_isSomebodyOrNobody_7 : decode cX0_isSomebodyOrNobody 7 = .ok (.invokevirtual 47, 3) := by decide +kernel
theorem dX0_isSomebodyOrNobody_10 : decode cX0_isSomebodyOrNobody 10 = .ok (.ifCond .eq 7, 3) := by decide +kernel
theorem dX0_isSomebodyOrNobody_13 : decode cX0_isSomebodyOrNobody 13 = .ok (.iconst 1, 1) := by decide +kernel
theorem dX0_isSomebodyOrNobody_14 : decode cX0_isSomebodyOrNobody 14 = .ok (.goto 4, 3) := by decide +kernel
theorem dX0_isSomebodyOrNobody_17 : decode cX0_isSomebodyOrNobody 17 = .ok (.iconst 0, 1) := by decide +kernel
theorem dX0_isSomebodyOrNobody_18 : decode cX0_isSomebodyOrNobody 18 = .ok (.ireturn, 1) := by decide +kernel
theorem dX0_pass_0 : decode cX0_pass 0 = .ok (.aload_n 0, 1) := by decide +kernel
theorem dX0_pass_1 : decode cX0_pass 1 = .ok (.aload_n 1, 1) := by decide +kernel
theorem dX0_pass_2 : decode cX0_pass 2 = .ok (.invokevirtual 131, 3) := by decide +kernel
theorem dX0_pass_5 : decode cX0_pass 5 = .ok (.aload_n 0, 1) := by decide +kernel
theorem dX0_pass_6 : decode cX0_pass 6 = .ok (.getfield 27, 3) := by decide +kernel
theorem dX0_pass_9 : decode cX0_pass 9 = .ok (.iconst 0, 1) := by decide +kernel
theorem dX0_pass_10 : decode cX0_pass 10 = .ok (.invokestatic 111, 3) := by decide +kernel
theorem dX0_pass_13 : decode cX0_pass 13 = .ok (.iconst 0, 1) := by decide +kernel
theorem dX0_pass_14 : decode cX0_pass 14 = .ok (.istore_n 2, 1) := by decide +kernel
theorem dX0_pass_15 : decode cX0_pass 15 = .ok (.iload_n 2, 1) := by decide +kernel
theorem dX0_pass_16 : decode cX0_pass 16 = .ok (.aload_n 0, 1) := by decide +kernel
theorem dX0_pass_17 : decode cX0_pass 17 = .ok (.getfield 30, 3) := by decide +kernel
theorem dX0_pass_20 : decode cX0_pass 20 = .ok (.if_icmp .ge 56, 3) := by decide +kernel
theorem dX0_pass_23 : decode cX0_pass 23 = .ok (.aload_n 1, 1) := by decide +kernel
theorem dX0_pass_24 : decode cX0_pass 24 = .ok (.getfield 117, 3) := by decide +kernel
theorem dX0_pass_27 : decode cX0_pass 27 = .ok (.iload_n 2, 1) := by decide +kernel
theorem dX0_pass_28 : decode cX0_pass 28 = .ok (.iaload, 1) := by decide +kernel
theorem dX0_pass_29 : decode cX0_pass 29 = .ok (.istore_n 3, 1) := by decide +kernel
theorem dX0_pass_30 : decode cX0_pass 30 = .ok (.aload_n 0, 1) := by decide +kernel
theorem dX0_pass_31 : decode cX0_pass 31 = .ok (.getfield 108, 3) := by decide +kernel
theorem dX0_pass_34 : decode cX0_pass 34 = .ok (.iload_n 2, 1) := by decide +kernel
theorem dX0_pass_35 : decode cX0_pass 35 = .ok (.ishr, 1) := by decide +kernel
theorem dX0_pass_36 : decode cX0_pass 36 = .ok (.iconst 1, 1) := by decide +kernel
theorem dX0_pass_37 : decode cX0_pass 37 = .ok (.iand, 1) := by decide +kernel
theorem dX0_pass_38 : decode cX0_pass 38 = .ok (.iconst 1, 1) := by decide +kernel
theorem dX0_pass_39 : decode cX0_pass 39 = .ok (.if_icmp .ne 31, 3) := by decide +kernel
theorem dX0_pass_42 : decode cX0_pass 42 = .ok (.aload_n 0, 1) := by decide +kernel
theorem dX0_pass_43 : decode cX0_pass 43 = .ok (.iload_n 3, 1) := by decide +kernel
theorem dX0_pass_44 : decode cX0_pass 44 = .ok (.invokevirtual 47, 3) := by decide +kernel
theorem dX0_pass_47 : decode cX0_pass 47 = .ok (.ifCond .eq 23, 3) := by decide +kernel
theorem dX0_pass_50 : decode cX0_pass 50 = .ok (.aload_n 0, 1) := by decide +kernel
theorem dX0_pass_51 : decode cX0_pass 51 = .ok (.getfield 27, 3) := by decide +kernel
theorem dX0_pass_54 : decode cX0_pass 54 = .ok (.iload_n 3, 1) := by decide +kernel
theorem dX0_pass_55 : decode cX0_pass 55 = .ok (.dup2, 1) := by decide +kernel
theorem dX0_pass_56 : decode cX0_pass 56 = .ok (.iaload, 1) := by decide +kernel
theorem dX0_pass_57 : decode cX0_pass 57 = .ok (.aload_n 0, 1) := by decide +kernel
theorem dX0_pass_58 : decode cX0_pass 58 = .ok (.aload_n 0, 1) := by decide +kernel
theorem dX0_pass_59 : decode cX0_pass 59 = .ok (.getfield 40, 3) := by decide +kernel
theorem dX0_pass_62 : decode cX0_pass 62 = .ok (.aload_n 1, 1) := by decide +kernel
theorem dX0_pass_63 : decode cX0_pass 63 = .ok (.iload_n 3, 1) := by decide +kernel
theorem dX0_pass_64 : decode cX0_pass 64 = .ok (.iload_n 2, 1) := by decide +kernel
theorem dX0_pass_65 : decode cX0_pass 65 = .ok (.invokevirtual 135, 3) := by decide +kernel
theorem dX0_pass_68 : decode cX0_pass 68 = .ok (.iadd, 1) := by decide +kernel
theorem dX0_pass_69 : decode cX0_pass 69 = .ok (.iastore, 1) := by decide +kernel
theorem dX0_pass_70 : decode cX0_pass 70 = .ok (.iinc 2 1, 3) := by decide +kernel
theorem dX0_pass_73 : decode cX0_pass 73 = .ok (.goto (-58), 3) := by decide +kernel
theorem dX0_pass_76 : decode cX0_pass 76 = .ok (.iconst 0, 1) := by decide +kernel
theorem dX0_pass_77 : decode cX0_pass 77 = .ok (.istore_n 2, 1) := by decide +kernel
theorem dX0_pass_78 : decode cX0_pass 78 = .ok (.iload_n 2, 1) := by decide +kernel
theorem dX0_pass_79 : decode cX0_pass 79 = .ok (.aload_n 0, 1) := by decide +kernel
theorem dX0_pass_80 : decode cX0_pass 80 = .ok (.getfield 44, 3) := by decide +kernel
theorem dX0_pass_83 : decode cX0_pass 83 = .ok (.if_icmp .ge 56, 3) := by decide +kernel
theorem dX0_pass_86 : decode cX0_pass 86 = .ok (.aload_n 0, 1) := by decide +kernel
theorem dX0_pass_87 : decode cX0_pass 87 = .ok (.getfield 24, 3) := by decide +kernel
theorem dX0_pass_90 : decode cX0_pass 90 = .ok (.iload_n 2, 1) := by decide +kernel
theorem dX0_pass_91 : decode cX0_pass 91 = .ok (.iaload, 1) := by decide +kernel
theorem dX0_pass_92 : decode cX0_pass 92 = .ok (.ifCond .le 19, 3) := by decide +kernel
theorem dX0_pass_95 : decode cX0_pass 95 = .ok (.aload_n 1, 1) := by decide +kernel
theorem dX0_pass_96 : decode cX0_pass 96 = .ok (.getfield 82, 3) := by decide +kernel
theorem dX0_pass_99 : decode cX0_pass 99 = .ok (.iload_n 2, 1) := by decide +kernel
theorem dX0_pass_100 : decode cX0_pass 100 = .ok (.iaload, 1) := by decide +kernel
theorem dX0_pass_101 : decode cX0_pass 101 = .ok (.aload_n 0, 1) := by decide +kernel
theorem dX0_pass_102 : decode cX0_pass 102 = .ok (.getfield 27, 3) := by decide +kernel
theorem dX0_pass_105 : decode cX0_pass 105 = .ok (.iload_n 2, 1) := by decide +kernel
theorem dX0_pass_106 : decode cX0_pass 106 = .ok (.iaload, 1) := by decide +kernel
theorem dX0_pass_107 : decode cX0_pass 107 = .ok (.iadd, 1) := by decide +kernel
theorem dX0_pass_108 : decode cX0_pass 108 = .ok (.goto 11, 3) := by decide +kernel
theorem dX0_pass_111 : decode cX0_pass 111 = .ok (.aload_n 1, 1) := by decide +kernel
theorem dX0_pass_112 : decode cX0_pass 112 = .ok (.getfield 82, 3) := by decide +kernel
theorem dX0_pass_115 : decode cX0_pass 115 = .ok (.iload_n 2, 1) := by decide +kernel
theorem dX0_pass_116 : decode cX0_pass 116 = .ok (.iaload, 1) := by decide +kernel
theorem dX0_pass_117 : decode cX0_pass 117 = .ok (.iconst 5, 1) := by decide +kernel
theorem dX0_pass_118 : decode cX0_pass 118 = .ok (.isub, 1) := by decide +kernel
theorem dX0_pass_119 : decode cX0_pass 119 = .ok (.istore_n 3, 1) := by decide +kernel
theorem dX0_pass_120 : decode cX0_pass 120 = .ok (.aload_n 1, 1) := by decide +kernel
theorem dX0_pass_121 : decode cX0_pass 121 = .ok (.getfield 82, 3) := by decide +kernel
theorem dX0_pass_124 : decode cX0_pass 124 = .ok (.iload_n 2, 1) := by decide +kernel
theorem dX0_pass_125 : decode cX0_pass 125 = .ok (.iload_n 3, 1) := by decide +kernel
theorem dX0_pass_126 : decode cX0_pass 126 = .ok (.iconst 0, 1) := by decide +kernel
theorem dX0_pass_127 : decode cX0_pass 127 = .ok (.bipush 99, 2) := by decide +kernel
theorem dX0_pass_129 : decode cX0_pass 129 = .ok (.invokestatic 99, 3) := by decide +kernel
theorem dX0_pass_132 : decode cX0_pass 132 = .ok (.iastore, 1) := by decide +kernel
theorem dX0_pass_133 : decode cX0_pass 133 = .ok (.iinc 2 1, 3) := by decide +kernel
theorem dX0_pass_136 : decode cX0_pass 136 = .ok (.goto (-58), 3) := by decide +kernel
theorem dX0_pass_139 : decode cX0_pass 139 = .ok (.aload_n 1, 1) := by decide +kernel
theorem dX0_pass_140 : decode cX0_pass 140 = .ok (.dup, 1) := by decide +kernel
theorem dX0_pass_141 : decode cX0_pass 141 = .ok (.getfield 139, 3) := by decide +kernel
theorem dX0_pass_144 : decode cX0_pass 144 = .ok (.aload_n 0, 1) := by decide +kernel
theorem dX0_pass_145 : decode cX0_pass 145 = .ok (.getfield 105, 3) := by decide +kernel
theorem dX0_pass_148 : decode cX0_pass 148 = .ok (.invokestatic 90, 3) := by decide +kernel
theorem dX0_pass_151 : decode cX0_pass 151 = .ok (.iadd, 1) := by decide +kernel
theorem dX0_pass_152 : decode cX0_pass 152 = .ok (.putfield 139, 3) := by decide +kernel
theorem dX0_pass_155 : decode cX0_pass 155 = .ok (.aload_n 1, 1) := by decide +kernel
theorem dX0_pass_156 : decode cX0_pass 156 = .ok (.dup, 1) := by decide +kernel
theorem dX0_pass_157 : decode cX0_pass 157 = .ok (.getfield 142, 3) := by decide +kernel
theorem dX0_pass_160 : decode cX0_pass 160 = .ok (.aload_n 0, 1) := by decide +kernel
theorem dX0_pass_161 : decode cX0_pass 161 = .ok (.getfield 108, 3) := by decide +kernel
theorem dX0_pass_164 : decode cX0_pass 164 = .ok (.invokestatic 90, 3) := by decide +kernel
theorem dX0_pass_167 : decode cX0_pass 167 = .ok (.iadd, 1) := by decide +kernel
theorem dX0_pass_168 : decode cX0_pass 168 = .ok (.putfield 142, 3) := by decide +kernel
theorem dX0_pass_171 : decode cX0_pass 171 = .ok (.aload_n 1, 1) := by decide +kernel
theorem dX0_pass_172 : decode cX0_pass 172 = .ok (.dup, 1) := by decide +kernel
theorem dX0_pass_173 : decode cX0_pass 173 = .ok (.getfield 87, 3) := by decide +kernel
theorem dX0_pass_176 : decode cX0_pass 176 = .ok (.iconst 1, 1) := by decide +kernel
theorem dX0_pass_177 : decode cX0_pass 177 = .ok (.iadd, 1) := by decide +kernel
theorem dX0_pass_178 : decode cX0_pass 178 = .ok (.putfield 87, 3) := by decide +kernel
theorem dX0_pass_181 : decode cX0_pass 181 = .ok (.return_, 1) := by decide +kernel
theorem dX0_passAll_0 : decode cX0_passAll 0 = .ok (.iconst 0, 1) := by decide +kernel
theorem dX0_passAll_1 : decode cX0_passAll 1 = .ok (.istore_n 3, 1) := by decide +kernel
theorem dX0_passAll_2 : decode cX0_passAll 2 = .ok (.iload_n 3, 1) := by decide +kernel
theorem dX0_passAll_3 : decode cX0_passAll 3 = .ok (.iload_n 2, 1) := by decide +kernel
theorem dX0_passAll_4 : decode cX0_passAll 4 = .ok (.if_icmp .ge 14, 3) := by decide +kernel
theorem dX0_passAll_7 : decode cX0_passAll 7 = .ok (.aload_n 0, 1) := by decide +kernel
theorem dX0_passAll_8 : decode cX0_passAll 8 = .ok (.aload_n 1, 1) := by decide +kernel
theorem dX0_passAll_9 : decode cX0_passAll 9 = .ok (.invokevirtual 145, 3) := by decide +kernel
theorem dX0_passAll_12 : decode cX0_passAll 12 = .ok (.iinc 3 1, 3) := by decide +kernel
theorem dX0_passAll_15 : decode cX0_passAll 15 = .ok (.goto (-13), 3) := by decide +kernel
theorem dX0_passAll_18 : decode cX0_passAll 18 = .ok (.return_, 1) := by decide +kernel
theorem dX0_readRiders_0 : decode cX0_readRiders 0 = .ok (.aload_n 1, 1) := by decide +kernel
theorem dX0_readRiders_1 : decode cX0_readRiders 1 = .ok (.getfield 57, 3) := by decide +kernel
theorem dX0_readRiders_4 : decode cX0_readRiders 4 = .ok (.ifCond .ne 5, 3) := by decide +kernel
theorem dX0_readRiders_7 : decode cX0_readRiders 7 = .ok (.iconst 0, 1) := by decide +kernel
theorem dX0_readRiders_8 : decode cX0_readRiders 8 = .ok (.ireturn, 1) := by decide +kernel
theorem dX0_readRiders_9 : decode cX0_readRiders 9 = .ok (.aload_n 1, 1) := by decide +kernel
theorem dX0_readRiders_10 : decode cX0_readRiders 10 = .ok (.getfield 57, 3) := by decide +kernel
theorem dX0_readRiders_13 : decode cX0_readRiders 13 = .ok (.bipush 76, 2) := by decide +kernel
theorem dX0_readRiders_15 : decode cX0_readRiders 15 = .ok (.invokestatic 62, 3) := by decide +kernel
theorem dX0_readRiders_18 : decode cX0_readRiders 18 = .ok (.istore_n 2, 1) := by decide +kernel
theorem dX0_readRiders_19 : decode cX0_readRiders 19 = .ok (.iconst 0, 1) := by decide +kernel
theorem dX0_readRiders_20 : decode cX0_readRiders 20 = .ok (.istore_n 3, 1) := by decide +kernel
theorem dX0_readRiders_21 : decode cX0_readRiders 21 = .ok (.iconst 0, 1) := by decide +kernel
theorem dX0_readRiders_22 : decode cX0_readRiders 22 = .ok (.istore 4, 2) := by decide +kernel
theorem dX0_readRiders_24 : decode cX0_readRiders 24 = .ok (.iconst 0, 1) := by decide +kernel
theorem dX0_readRiders_25 : decode cX0_readRiders 25 = .ok (.istore 5, 2) := by decide +kernel
theorem dX0_readRiders_27 : decode cX0_readRiders 27 = .ok (.iload 5, 2) := by decide +kernel
theorem dX0_readRiders_29 : decode cX0_readRiders 29 = .ok (.iload_n 2, 1) := by decide +kernel
theorem dX0_readRiders_30 : decode cX0_readRiders 30 = .ok (.if_icmp .ge 58, 3) := by decide +kernel
theorem dX0_readRiders_33 : decode cX0_readRiders 33 = .ok (.aload_n 0, 1) := by decide +kernel
theorem dX0_readRiders_34 : decode cX0_readRiders 34 = .ok (.aload_n 1, 1) := by decide +kernel
theorem dX0_readRiders_35 : decode cX0_readRiders 35 = .ok (.iload 5, 2) := by decide +kernel
theorem dX0_readRiders_37 : decode cX0_readRiders 37 = .ok (.invokevirtual 66, 3) := by decide +kernel
theorem dX0_readRiders_40 : decode cX0_readRiders 40 = .ok (.iload_n 3, 1) := by decide +kernel
theorem dX0_readRiders_41 : decode cX0_readRiders 41 = .ok (.aload_n 0, 1) := by decide +kernel
theorem dX0_readRiders_42 : decode cX0_readRiders 42 = .ok (.getfield 44, 3) := by decide +kernel
theorem dX0_readRiders_45 : decode cX0_readRiders 45 = .ok (.iload 4, 2) := by decide +kernel
theorem dX0_readRiders_47 : decode cX0_readRiders 47 = .ok (.iadd, 1) := by decide +kernel
theorem dX0_readRiders_48 : decode cX0_readRiders 48 = .ok (.invokevirtual 69, 3) := by decide +kernel
theorem dX0_readRiders_51 : decode cX0_readRiders 51 = .ok (.istore 6, 2) := by decide +kernel
theorem dX0_readRiders_53 : decode cX0_readRiders 53 = .ok (.iload 6, 2) := by decide +kernel
theorem dX0_readRiders_55 : decode cX0_readRiders 55 = .ok (.iconst (-1), 1) := by decide +kernel
theorem dX0_readRiders_56 : decode cX0_readRiders 56 = .ok (.if_icmp .ne 8, 3) := by decide +kernel
theorem dX0_readRiders_59 : decode cX0_readRiders 59 = .ok (.iconst (-1), 1) := by decide +kernel
theorem dX0_readRiders_60 : decode cX0_readRiders 60 = .ok (.iload 5, 2) := by decide +kernel
theorem dX0_readRiders_62 : decode cX0_readRiders 62 = .ok (.isub, 1) := by decide +kernel
theorem dX0_readRiders_63 : decode cX0_readRiders 63 = .ok (.ireturn, 1) := by decide +kernel
theorem dX0_readRiders_64 : decode cX0_readRiders 64 = .ok (.iload 4, 2) := by decide +kernel
theorem dX0_readRiders_66 : decode cX0_readRiders 66 = .ok (.iload_n 3, 1) := by decide +kernel
theorem dX0_readRiders_67 : decode cX0_readRiders 67 = .ok (.iconst 1, 1) := by decide +kernel
theorem dX0_readRiders_68 : decode cX0_readRiders 68 = .ok (.if_icmp .ne 7, 3) := by decide +kernel
theorem dX0_readRiders_71 : decode cX0_readRiders 71 = .ok (.iconst 1, 1) := by decide +kernel
theorem dX0_readRiders_72 : decode cX0_readRiders 72 = .ok (.goto 4, 3) := by decide +kernel
theorem dX0_readRiders_75 : decode cX0_readRiders 75 = .ok (.iconst 0, 1) := by decide +kernel
theorem dX0_readRiders_76 : decode cX0_readRiders 76 = .ok (.iadd, 1) := by decide +kernel
theorem dX0_readRiders_77 : decode cX0_readRiders 77 = .ok (.istore 4, 2) := by decide +kernel
theorem dX0_readRiders_79 : decode cX0_readRiders 79 = .ok (.iload 6, 2) := by decide +kernel
theorem dX0_readRiders_81 : decode cX0_readRiders 81 = .ok (.istore_n 3, 1) := by decide +kernel
theorem dX0_readRiders_82 : decode cX0_readRiders 82 = .ok (.iinc 5 1, 3) := by decide +kernel
theorem dX0_readRiders_85 : decode cX0_readRiders 85 = .ok (.goto (-58), 3) := by decide +kernel
theorem dX0_readRiders_88 : decode cX0_readRiders 88 = .ok (.aload_n 1, 1) := by decide +kernel
theorem dX0_readRiders_89 : decode cX0_readRiders 89 = .ok (.getfield 57, 3) := by decide +kernel
theorem dX0_readRiders_92 : decode cX0_readRiders 92 = .ok (.bipush 76, 2) := by decide +kernel
theorem dX0_readRiders_94 : decode cX0_readRiders 94 = .ok (.if_icmp .gt 8, 3) := by decide +kernel
theorem dX0_readRiders_97 : decode cX0_readRiders 97 = .ok (.iload_n 3, 1) := by decide +kernel
theorem dX0_readRiders_98 : decode cX0_readRiders 98 = .ok (.iconst 2, 1) := by decide +kernel
theorem dX0_readRiders_99 : decode cX0_readRiders 99 = .ok (.if_icmp .ge 7, 3) := by decide +kernel
theorem dX0_readRiders_102 : decode cX0_readRiders 102 = .ok (.iconst (-1), 1) := by decide +kernel
theorem dX0_readRiders_103 : decode cX0_readRiders 103 = .ok (.iload_n 2, 1) := by decide +kernel
theorem dX0_readRiders_104 : decode cX0_readRiders 104 = .ok (.isub, 1) := by decide +kernel
theorem dX0_readRiders_105 : decode cX0_readRiders 105 = .ok (.ireturn, 1) := by decide +kernel
theorem dX0_readRiders_106 : decode cX0_readRiders 106 = .ok (.aload_n 0, 1) := by decide +kernel
theorem dX0_readRiders_107 : decode cX0_readRiders 107 = .ok (.dup, 1) := by decide +kernel
theorem dX0_readRiders_108 : decode cX0_readRiders 108 = .ok (.getfield 44, 3) := by decide +kernel
theorem dX0_readRiders_111 : decode cX0_readRiders 111 = .ok (.iload 4, 2) := by decide +kernel
theorem dX0_readRiders_113 : decode cX0_readRiders 113 = .ok (.iadd, 1) := by decide +kernel
theorem dX0_readRiders_114 : decode cX0_readRiders 114 = .ok (.putfield 44, 3) := by decide +kernel
theorem dX0_readRiders_117 : decode cX0_readRiders 117 = .ok (.iload 4, 2) := by decide +kernel
theorem dX0_readRiders_119 : decode cX0_readRiders 119 = .ok (.ireturn, 1) := by decide +kernel
theorem dX0_takeHour_0 : decode cX0_takeHour 0 = .ok (.iload_n 1, 1) := by decide +kernel
theorem dX0_takeHour_1 : decode cX0_takeHour 1 = .ok (.bipush 8, 2) := by decide +kernel
theorem dX0_takeHour_3 : decode cX0_takeHour 3 = .ok (.if_icmp .ge 13, 3) := by decide +kernel
theorem dX0_takeHour_6 : decode cX0_takeHour 6 = .ok (.aload_n 0, 1) := by decide +kernel
theorem dX0_takeHour_7 : decode cX0_takeHour 7 = .ok (.getfield 9, 3) := by decide +kernel
theorem dX0_takeHour_10 : decode cX0_takeHour 10 = .ok (.iload_n 1, 1) := by decide +kernel
theorem dX0_takeHour_11 : decode cX0_takeHour 11 = .ok (.iaload, 1) := by decide +kernel
theorem dX0_takeHour_12 : decode cX0_takeHour 12 = .ok (.iload_n 2, 1) := by decide +kernel
theorem dX0_takeHour_13 : decode cX0_takeHour 13 = .ok (.if_icmp .lt 5, 3) := by decide +kernel
theorem dX0_takeHour_16 : decode cX0_takeHour 16 = .ok (.iconst (-1), 1) := by decide +kernel
theorem dX0_takeHour_17 : decode cX0_takeHour 17 = .ok (.ireturn, 1) := by decide +kernel
theorem dX0_takeHour_18 : decode cX0_takeHour 18 = .ok (.aload_n 0, 1) := by decide +kernel
theorem dX0_takeHour_19 : decode cX0_takeHour 19 = .ok (.getfield 9, 3) := by decide +kernel
theorem dX0_takeHour_22 : decode cX0_takeHour 22 = .ok (.iload_n 1, 1) := by decide +kernel
theorem dX0_takeHour_23 : decode cX0_takeHour 23 = .ok (.dup2, 1) := by decide +kernel
theorem dX0_takeHour_24 : decode cX0_takeHour 24 = .ok (.iaload, 1) := by decide +kernel
theorem dX0_takeHour_25 : decode cX0_takeHour 25 = .ok (.iload_n 2, 1) := by decide +kernel
theorem dX0_takeHour_26 : decode cX0_takeHour 26 = .ok (.ior, 1) := by decide +kernel
theorem dX0_takeHour_27 : decode cX0_takeHour 27 = .ok (.iastore, 1) := by decide +kernel
theorem dX0_takeHour_28 : decode cX0_takeHour 28 = .ok (.iconst 2, 1) := by decide +kernel
theorem dX0_takeHour_29 : decode cX0_takeHour 29 = .ok (.ireturn, 1) := by decide +kernel
theorem dX0_takeMost_0 : decode cX0_takeMost 0 = .ok (.aload_n 0, 1) := by decide +kernel
theorem dX0_takeMost_1 : decode cX0_takeMost 1 = .ok (.getfield 15, 3) := by decide +kernel
theorem dX0_takeMost_4 : decode cX0_takeMost 4 = .ok (.iload_n 1, 1) := by decide +kernel
theorem dX0_takeMost_5 : decode cX0_takeMost 5 = .ok (.iload_n 2, 1) := by decide +kernel
theorem dX0_takeMost_6 : decode cX0_takeMost 6 = .ok (.iastore, 1) := by decide +kernel
theorem dX0_takeMost_7 : decode cX0_takeMost 7 = .ok (.iconst 1, 1) := by decide +kernel
theorem dX0_takeMost_8 : decode cX0_takeMost 8 = .ok (.ireturn, 1) := by decide +kernel
theorem dX0_takeSign_0 : decode cX0_takeSign 0 = .ok (.iload_n 2, 1) := by decide +kernel
theorem dX0_takeSign_1 : decode cX0_takeSign 1 = .ok (.ifCond .ne 35, 3) := by decide +kernel
theorem dX0_takeSign_4 : decode cX0_takeSign 4 = .ok (.iload_n 1, 1) := by decide +kernel
theorem dX0_takeSign_5 : decode cX0_takeSign 5 = .ok (.bipush 49, 2) := by decide +kernel
theorem dX0_takeSign_7 : decode cX0_takeSign 7 = .ok (.if_icmp .lt 27, 3) := by decide +kernel
theorem dX0_takeSign_10 : decode cX0_takeSign 10 = .ok (.iload_n 1, 1) := by decide +kernel
theorem dX0_takeSign_11 : decode cX0_takeSign 11 = .ok (.bipush 52, 2) := by decide +kernel
theorem dX0_takeSign_13 : decode cX0_takeSign 13 = .ok (.if_icmp .gt 21, 3) := by decide +kernel
theorem dX0_takeSign_16 : decode cX0_takeSign 16 = .ok (.iload_n 3, 1) := by decide +kernel
theorem dX0_takeSign_17 : decode cX0_takeSign 17 = .ok (.bipush 8, 2) := by decide +kernel
theorem dX0_takeSign_19 : decode cX0_takeSign 19 = .ok (.if_icmp .ge 15, 3) := by decide +kernel
theorem dX0_takeSign_22 : decode cX0_takeSign 22 = .ok (.aload_n 0, 1) := by decide +kernel
theorem dX0_takeSign_23 : decode cX0_takeSign 23 = .ok (.iload_n 3, 1) := by decide +kernel
theorem dX0_takeSign_24 : decode cX0_takeSign 24 = .ok (.iload_n 1, 1) := by decide +kernel
theorem dX0_takeSign_25 : decode cX0_takeSign 25 = .ok (.bipush 48, 2) := by decide +kernel
theorem dX0_takeSign_27 : decode cX0_takeSign 27 = .ok (.isub, 1) := by decide +kernel
theorem dX0_takeSign_28 : decode cX0_takeSign 28 = .ok (.invokevirtual 73, 3) := by decide +kernel
theorem dX0_takeSign_31 : decode cX0_takeSign 31 = .ok (.goto 4, 3) := by decide +kernel
theorem dX0_takeSign_34 : decode cX0_takeSign 34 = .ok (.iconst (-1), 1) := by decide +kernel
theorem dX0_takeSign_35 : decode cX0_takeSign 35 = .ok (.ireturn, 1) := by decide +kernel
theorem dX0_takeSign_36 : decode cX0_takeSign 36 = .ok (.iload_n 2, 1) := by decide +kernel
theorem dX0_takeSign_37 : decode cX0_takeSign 37 = .ok (.iconst 1, 1) := by decide +kernel
theorem dX0_takeSign_38 : decode cX0_takeSign 38 = .ok (.if_icmp .ne 35, 3) := by decide +kernel
theorem dX0_takeSign_41 : decode cX0_takeSign 41 = .ok (.iload_n 1, 1) := by decide +kernel
theorem dX0_takeSign_42 : decode cX0_takeSign 42 = .ok (.bipush 49, 2) := by decide +kernel
theorem dX0_takeSign_44 : decode cX0_takeSign 44 = .ok (.if_icmp .lt 27, 3) := by decide +kernel
theorem dX0_takeSign_47 : decode cX0_takeSign 47 = .ok (.iload_n 1, 1) := by decide +kernel
theorem dX0_takeSign_48 : decode cX0_takeSign 48 = .ok (.bipush 57, 2) := by decide +kernel
theorem dX0_takeSign_50 : decode cX0_takeSign 50 = .ok (.if_icmp .gt 21, 3) := by decide +kernel
theorem dX0_takeSign_53 : decode cX0_takeSign 53 = .ok (.iload_n 3, 1) := by decide +kernel
theorem dX0_takeSign_54 : decode cX0_takeSign 54 = .ok (.bipush 8, 2) := by decide +kernel
theorem dX0_takeSign_56 : decode cX0_takeSign 56 = .ok (.if_icmp .ge 15, 3) := by decide +kernel
theorem dX0_takeSign_59 : decode cX0_takeSign 59 = .ok (.aload_n 0, 1) := by decide +kernel
theorem dX0_takeSign_60 : decode cX0_takeSign 60 = .ok (.iload_n 3, 1) := by decide +kernel
theorem dX0_takeSign_61 : decode cX0_takeSign 61 = .ok (.iload_n 1, 1) := by decide +kernel
theorem dX0_takeSign_62 : decode cX0_takeSign 62 = .ok (.bipush 48, 2) := by decide +kernel
theorem dX0_takeSign_64 : decode cX0_takeSign 64 = .ok (.isub, 1) := by decide +kernel
theorem dX0_takeSign_65 : decode cX0_takeSign 65 = .ok (.invokevirtual 76, 3) := by decide +kernel
theorem dX0_takeSign_68 : decode cX0_takeSign 68 = .ok (.goto 4, 3) := by decide +kernel
theorem dX0_takeSign_71 : decode cX0_takeSign 71 = .ok (.iconst (-1), 1) := by decide +kernel
theorem dX0_takeSign_72 : decode cX0_takeSign 72 = .ok (.ireturn, 1) := by decide +kernel
theorem dX0_takeSign_73 : decode cX0_takeSign 73 = .ok (.iload_n 1, 1) := by decide +kernel
theorem dX0_takeSign_74 : decode cX0_takeSign 74 = .ok (.bipush 59, 2) := by decide +kernel
theorem dX0_takeSign_76 : decode cX0_takeSign 76 = .ok (.if_icmp .ne 5, 3) := by decide +kernel
theorem dX0_takeSign_79 : decode cX0_takeSign 79 = .ok (.iconst 0, 1) := by decide +kernel
theorem dX0_takeSign_80 : decode cX0_takeSign 80 = .ok (.ireturn, 1) := by decide +kernel
theorem dX0_takeSign_81 : decode cX0_takeSign 81 = .ok (.iload_n 1, 1) := by decide +kernel
theorem dX0_takeSign_82 : decode cX0_takeSign 82 = .ok (.bipush 97, 2) := by decide +kernel
theorem dX0_takeSign_84 : decode cX0_takeSign 84 = .ok (.if_icmp .lt 29, 3) := by decide +kernel
theorem dX0_takeSign_87 : decode cX0_takeSign 87 = .ok (.iload_n 1, 1) := by decide +kernel
theorem dX0_takeSign_88 : decode cX0_takeSign 88 = .ok (.bipush 104, 2) := by decide +kernel
theorem dX0_takeSign_90 : decode cX0_takeSign 90 = .ok (.if_icmp .gt 23, 3) := by decide +kernel
theorem dX0_takeSign_93 : decode cX0_takeSign 93 = .ok (.iload_n 3, 1) := by decide +kernel
theorem dX0_takeSign_94 : decode cX0_takeSign 94 = .ok (.ifCond .le 19, 3) := by decide +kernel
theorem dX0_takeSign_97 : decode cX0_takeSign 97 = .ok (.aload_n 0, 1) := by decide +kernel
theorem dX0_takeSign_98 : decode cX0_takeSign 98 = .ok (.iload_n 3, 1) := by decide +kernel
theorem dX0_takeSign_99 : decode cX0_takeSign 99 = .ok (.iconst 1, 1) := by decide +kernel
theorem dX0_takeSign_100 : decode cX0_takeSign 100 = .ok (.isub, 1) := by decide +kernel
theorem dX0_takeSign_101 : decode cX0_takeSign 101 = .ok (.iconst 1, 1) := by decide +kernel
theorem dX0_takeSign_102 : decode cX0_takeSign 102 = .ok (.iload_n 1, 1) := by decide +kernel
theorem dX0_takeSign_103 : decode cX0_takeSign 103 = .ok (.bipush 97, 2) := by decide +kernel
theorem dX0_takeSign_105 : decode cX0_takeSign 105 = .ok (.isub, 1) := by decide +kernel
theorem dX0_takeSign_106 : decode cX0_takeSign 106 = .ok (.ishl, 1) := by decide +kernel
theorem dX0_takeSign_107 : decode cX0_takeSign 107 = .ok (.invokevirtual 79, 3) := by decide +kernel
theorem dX0_takeSign_110 : decode cX0_takeSign 110 = .ok (.goto 4, 3) := by decide +kernel
theorem dX0_takeSign_113 : decode cX0_takeSign 113 = .ok (.iconst (-1), 1) := by decide +kernel
theorem dX0_takeSign_114 : decode cX0_takeSign 114 = .ok (.ireturn, 1) := by decide +kernel
theorem dX0_takeWidth_0 : decode cX0_takeWidth 0 = .ok (.aload_n 0, 1) := by decide +kernel
theorem dX0_takeWidth_1 : decode cX0_takeWidth 1 = .ok (.getfield 18, 3) := by decide +kernel
theorem dX0_takeWidth_4 : decode cX0_takeWidth 4 = .ok (.iload_n 1, 1) := by decide +kernel
theorem dX0_takeWidth_5 : decode cX0_takeWidth 5 = .ok (.iload_n 2, 1) := by decide +kernel
theorem dX0_takeWidth_6 : decode cX0_takeWidth 6 = .ok (.iastore, 1) := by decide +kernel
theorem dX0_takeWidth_7 : decode cX0_takeWidth 7 = .ok (.aload_n 0, 1) := by decide +kernel
theorem dX0_takeWidth_8 : decode cX0_takeWidth 8 = .ok (.getfield 9, 3) := by decide +kernel
theorem dX0_takeWidth_11 : decode cX0_takeWidth 11 = .ok (.iload_n 1, 1) := by decide +kernel
theorem dX0_takeWidth_12 : decode cX0_takeWidth 12 = .ok (.iconst 0, 1) := by decide +kernel
theorem dX0_takeWidth_13 : decode cX0_takeWidth 13 = .ok (.iastore, 1) := by decide +kernel
theorem dX0_takeWidth_14 : decode cX0_takeWidth 14 = .ok (.iconst 2, 1) := by decide +kernel
theorem dX0_takeWidth_15 : decode cX0_takeWidth 15 = .ok (.ireturn, 1) := by decide +kernel
theorem dX0_watch_0 : decode cX0_watch 0 = .ok (.aload_n 0, 1) := by decide +kernel
theorem dX0_watch_1 : decode cX0_watch 1 = .ok (.iconst 0, 1) := by decide +kernel
theorem dX0_watch_2 : decode cX0_watch 2 = .ok (.putfield 105, 3) := by decide +kernel
theorem dX0_watch_5 : decode cX0_watch 5 = .ok (.aload_n 0, 1) := by decide +kernel
theorem dX0_watch_6 : decode cX0_watch 6 = .ok (.iconst 0, 1) := by decide +kernel
theorem dX0_watch_7 : decode cX0_watch 7 = .ok (.putfield 108, 3) := by decide +kernel
theorem dX0_watch_10 : decode cX0_watch 10 = .ok (.aload_n 0, 1) := by decide +kernel
theorem dX0_watch_11 : decode cX0_watch 11 = .ok (.getfield 24, 3) := by decide +kernel
theorem dX0_watch_14 : decode cX0_watch 14 = .ok (.iconst 0, 1) := by decide +kernel
theorem dX0_watch_15 : decode cX0_watch 15 = .ok (.invokestatic 111, 3) := by decide +kernel
theorem dX0_watch_18 : decode cX0_watch 18 = .ok (.iconst (-1), 1) := by decide +kernel
theorem dX0_watch_19 : decode cX0_watch 19 = .ok (.istore_n 2, 1) := by decide +kernel
theorem dX0_watch_20 : decode cX0_watch 20 = .ok (.iconst 0, 1) := by decide +kernel
theorem dX0_watch_21 : decode cX0_watch 21 = .ok (.istore_n 3, 1) := by decide +kernel
theorem dX0_watch_22 : decode cX0_watch 22 = .ok (.iload_n 3, 1) := by decide +kernel
theorem dX0_watch_23 : decode cX0_watch 23 = .ok (.aload_n 0, 1) := by decide +kernel
theorem dX0_watch_24 : decode cX0_watch 24 = .ok (.getfield 30, 3) := by decide +kernel
theorem dX0_watch_27 : decode cX0_watch 27 = .ok (.if_icmp .ge 124, 3) := by decide +kernel
theorem dX0_watch_30 : decode cX0_watch 30 = .ok (.aload_n 1, 1) := by decide +kernel
theorem dX0_watch_31 : decode cX0_watch 31 = .ok (.getfield 117, 3) := by decide +kernel
theorem dX0_watch_34 : decode cX0_watch 34 = .ok (.iload_n 3, 1) := by decide +kernel
theorem dX0_watch_35 : decode cX0_watch 35 = .ok (.iaload, 1) := by decide +kernel
theorem dX0_watch_36 : decode cX0_watch 36 = .ok (.istore 4, 2) := by decide +kernel
theorem dX0_watch_38 : decode cX0_watch 38 = .ok (.aload_n 0, 1) := by decide +kernel
theorem dX0_watch_39 : decode cX0_watch 39 = .ok (.aload_n 1, 1) := by decide +kernel
theorem dX0_watch_40 : decode cX0_watch 40 = .ok (.iload 4, 2) := by decide +kernel
theorem dX0_watch_42 : decode cX0_watch 42 = .ok (.iload_n 3, 1) := by decide +kernel
theorem dX0_watch_43 : decode cX0_watch 43 = .ok (.invokevirtual 120, 3) := by decide +kernel
theorem dX0_watch_46 : decode cX0_watch 46 = .ok (.ifCond .eq 20, 3) := by decide +kernel
theorem dX0_watch_49 : decode cX0_watch 49 = .ok (.aload_n 0, 1) := by decide +kernel
theorem dX0_watch_50 : decode cX0_watch 50 = .ok (.getfield 24, 3) := by decide +kernel
theorem dX0_watch_53 : decode cX0_watch 53 = .ok (.iload 4, 2) := by decide +kernel
theorem dX0_watch_55 : decode cX0_watch 55 = .ok (.iaload, 1) := by decide +kernel
theorem dX0_watch_56 : decode cX0_watch 56 = .ok (.aload_n 0, 1) := by decide +kernel
theorem dX0_watch_57 : decode cX0_watch 57 = .ok (.getfield 15, 3) := by decide +kernel
theorem dX0_watch_60 : decode cX0_watch 60 = .ok (.iload 4, 2) := by decide +kernel
theorem dX0_watch_62 : decode cX0_watch 62 = .ok (.iaload, 1) := by decide +kernel
theorem dX0_watch_63 : decode cX0_watch 63 = .ok (.if_icmp .lt 20, 3) := by decide +kernel
theorem dX0_watch_66 : decode cX0_watch 66 = .ok (.aload_n 0, 1) := by decide +kernel
theorem dX0_watch_67 : decode cX0_watch 67 = .ok (.dup, 1) := by decide +kernel
theorem dX0_watch_68 : decode cX0_watch 68 = .ok (.getfield 105, 3) := by decide +kernel
theorem dX0_watch_71 : decode cX0_watch 71 = .ok (.iconst 1, 1) := by decide +kernel
theorem dX0_watch_72 : decode cX0_watch 72 = .ok (.iload_n 3, 1) := by decide +kernel
theorem dX0_watch_73 : decode cX0_watch 73 = .ok (.ishl, 1) := by decide +kernel
theorem dX0_watch_74 : decode cX0_watch 74 = .ok (.ior, 1) := by decide +kernel
theorem dX0_watch_75 : decode cX0_watch 75 = .ok (.putfield 105, 3) := by decide +kernel
theorem dX0_watch_78 : decode cX0_watch 78 = .ok (.iconst (-1), 1) := by decide +kernel
theorem dX0_watch_79 : decode cX0_watch 79 = .ok (.istore_n 2, 1) := by decide +kernel
theorem dX0_watch_80 : decode cX0_watch 80 = .ok (.goto 65, 3) := by decide +kernel
theorem dX0_watch_83 : decode cX0_watch 83 = .ok (.aload_n 0, 1) := by decide +kernel
theorem dX0_watch_84 : decode cX0_watch 84 = .ok (.getfield 24, 3) := by decide +kernel
theorem dX0_watch_87 : decode cX0_watch 87 = .ok (.iload 4, 2) := by decide +kernel
theorem dX0_watch_89 : decode cX0_watch 89 = .ok (.dup2, 1) := by decide +kernel
theorem dX0_watch_90 : decode cX0_watch 90 = .ok (.iaload, 1) := by decide +kernel
theorem dX0_watch_91 : decode cX0_watch 91 = .ok (.iconst 1, 1) := by decide +kernel
theorem dX0_watch_92 : decode cX0_watch 92 = .ok (.iadd, 1) := by decide +kernel
theorem dX0_watch_93 : decode cX0_watch 93 = .ok (.iastore, 1) := by decide +kernel
theorem dX0_watch_94 : decode cX0_watch 94 = .ok (.aload_n 0, 1) := by decide +kernel
theorem dX0_watch_95 : decode cX0_watch 95 = .ok (.dup, 1) := by decide +kernel
theorem dX0_watch_96 : decode cX0_watch 96 = .ok (.getfield 108, 3) := by decide +kernel
theorem dX0_watch_99 : decode cX0_watch 99 = .ok (.iconst 1, 1) := by decide +kernel
theorem dX0_watch_100 : decode cX0_watch 100 = .ok (.iload_n 3, 1) := by decide +kernel
theorem dX0_watch_101 : decode cX0_watch 101 = .ok (.ishl, 1) := by decide +kernel
theorem dX0_watch_102 : decode cX0_watch 102 = .ok (.ior, 1) := by decide +kernel
theorem dX0_watch_103 : decode cX0_watch 103 = .ok (.putfield 108, 3) := by decide +kernel
theorem dX0_watch_106 : decode cX0_watch 106 = .ok (.aload_n 0, 1) := by decide +kernel
theorem dX0_watch_107 : decode cX0_watch 107 = .ok (.iload_n 2, 1) := by decide +kernel
theorem dX0_watch_108 : decode cX0_watch 108 = .ok (.iload 4, 2) := by decide +kernel
theorem dX0_watch_110 : decode cX0_watch 110 = .ok (.invokevirtual 124, 3) := by decide +kernel
theorem dX0_watch_113 : decode cX0_watch 113 = .ok (.ifCond .eq 29, 3) := by decide +kernel
theorem dX0_watch_116 : decode cX0_watch 116 = .ok (.aload_n 0, 1) := by decide +kernel
theorem dX0_watch_117 : decode cX0_watch 117 = .ok (.iload_n 2, 1) := by decide +kernel
theorem dX0_watch_118 : decode cX0_watch 118 = .ok (.iload 4, 2) := by decide +kernel
theorem dX0_watch_120 : decode cX0_watch 120 = .ok (.invokevirtual 128, 3) := by decide +kernel
theorem dX0_watch_123 : decode cX0_watch 123 = .ok (.aload_n 0, 1) := by decide +kernel
theorem dX0_watch_124 : decode cX0_watch 124 = .ok (.getfield 34, 3) := by decide +kernel
theorem dX0_watch_127 : decode cX0_watch 127 = .ok (.if_icmp .le 15, 3) := by decide +kernel
theorem dX0_watch_130 : decode cX0_watch 130 = .ok (.aload_n 0, 1) := by decide +kernel
theorem dX0_watch_131 : decode cX0_watch 131 = .ok (.dup, 1) := by decide +kernel
theorem dX0_watch_132 : decode cX0_watch 132 = .ok (.getfield 105, 3) := by decide +kernel
theorem dX0_watch_135 : decode cX0_watch 135 = .ok (.iconst 1, 1) := by decide +kernel
theorem dX0_watch_136 : decode cX0_watch 136 = .ok (.iload_n 3, 1) := by decide +kernel
theorem dX0_watch_137 : decode cX0_watch 137 = .ok (.ishl, 1) := by decide +kernel
theorem dX0_watch_138 : decode cX0_watch 138 = .ok (.ior, 1) := by decide +kernel
theorem dX0_watch_139 : decode cX0_watch 139 = .ok (.putfield 105, 3) := by decide +kernel
theorem dX0_watch_142 : decode cX0_watch 142 = .ok (.iload 4, 2) := by decide +kernel
theorem dX0_watch_144 : decode cX0_watch 144 = .ok (.istore_n 2, 1) := by decide +kernel
theorem dX0_watch_145 : decode cX0_watch 145 = .ok (.iinc 3 1, 3) := by decide +kernel
theorem dX0_watch_148 : decode cX0_watch 148 = .ok (.goto (-126), 3) := by decide +kernel
theorem dX0_watch_151 : decode cX0_watch 151 = .ok (.return_, 1) := by decide +kernel
theorem dX1_add_0 : decode cX1_add 0 = .ok (.aload_n 0, 1) := by decide +kernel
theorem dX1_add_1 : decode cX1_add 1 = .ok (.getfield 15, 3) := by decide +kernel
theorem dX1_add_4 : decode cX1_add 4 = .ok (.aload_n 0, 1) := by decide +kernel
theorem dX1_add_5 : decode cX1_add 5 = .ok (.getfield 9, 3) := by decide +kernel
theorem dX1_add_8 : decode cX1_add 8 = .ok (.arraylength, 1) := by decide +kernel
theorem dX1_add_9 : decode cX1_add 9 = .ok (.if_icmp .ge 23, 3) := by decide +kernel
theorem dX1_add_12 : decode cX1_add 12 = .ok (.aload_n 0, 1) := by decide +kernel
theorem dX1_add_13 : decode cX1_add 13 = .ok (.getfield 9, 3) := by decide +kernel
theorem dX1_add_16 : decode cX1_add 16 = .ok (.aload_n 0, 1) := by decide +kernel
theorem dX1_add_17 : decode cX1_add 17 = .ok (.getfield 15, 3) := by decide +kernel
theorem dX1_add_20 : decode cX1_add 20 = .ok (.lload_n 1, 1) := by decide +kernel
theorem dX1_add_21 : decode cX1_add 21 = .ok (.lastore, 1) := by decide +kernel
theorem dX1_add_22 : decode cX1_add 22 = .ok (.aload_n 0, 1) := by decide +kernel
theorem dX1_add_23 : decode cX1_add 23 = .ok (.dup, 1) := by decide +kernel
theorem dX1_add_24 : decode cX1_add 24 = .ok (.getfield 15, 3) := by decide +kernel
theorem dX1_add_27 : decode cX1_add 27 = .ok (.iconst 1, 1) := by decide +kernel
theorem dX1_add_28 : decode cX1_add 28 = .ok (.iadd, 1) := by decide +kernel
theorem dX1_add_29 : decode cX1_add 29 = .ok (.putfield 15, 3) := by decide +kernel
theorem dX1_add_32 : decode cX1_add 32 = .ok (.return_, 1) := by decide +kernel
theorem dX1_at_0 : decode cX1_at 0 = .ok (.iload_n 1, 1) := by decide +kernel
theorem dX1_at_1 : decode cX1_at 1 = .ok (.ifCond .lt 20, 3) := by decide +kernel
theorem dX1_at_4 : decode cX1_at 4 = .ok (.iload_n 1, 1) := by decide +kernel
theorem dX1_at_5 : decode cX1_at 5 = .ok (.aload_n 0, 1) := by decide +kernel
theorem dX1_at_6 : decode cX1_at 6 = .ok (.getfield 15, 3) := by decide +kernel
theorem dX1_at_9 : decode cX1_at 9 = .ok (.if_icmp .ge 12, 3) := by decide +kernel
theorem dX1_at_12 : decode cX1_at 12 = .ok (.aload_n 0, 1) := by decide +kernel
theorem dX1_at_13 : decode cX1_at 13 = .ok (.getfield 9, 3) := by decide +kernel
theorem dX1_at_16 : decode cX1_at 16 = .ok (.iload_n 1, 1) := by decide +kernel
theorem dX1_at_17 : decode cX1_at 17 = .ok (.laload, 1) := by decide +kernel
theorem dX1_at_18 : decode cX1_at 18 = .ok (.goto 4, 3) := by decide +kernel
theorem dX1_at_21 : decode cX1_at 21 = .ok (.lconst 0, 1) := by decide +kernel
theorem dX1_at_22 : decode cX1_at 22 = .ok (.lreturn, 1) := by decide +kernel
theorem dX1_clear_0 : decode cX1_clear 0 = .ok (.aload_n 0, 1) := by decide +kernel
theorem dX1_clear_1 : decode cX1_clear 1 = .ok (.iconst 0, 1) := by decide +kernel
theorem dX1_clear_2 : decode cX1_clear 2 = .ok (.putfield 15, 3) := by decide +kernel
theorem dX1_clear_5 : decode cX1_clear 5 = .ok (.return_, 1) := by decide +kernel
theorem dX1_init_0 : decode cX1_init 0 = .ok (.aload_n 0, 1) := by decide +kernel
theorem dX1_init_1 : decode cX1_init 1 = .ok (.invokespecial 3, 3) := by decide +kernel
theorem dX1_init_4 : decode cX1_init 4 = .ok (.aload_n 0, 1) := by decide +kernel
theorem dX1_init_5 : decode cX1_init 5 = .ok (.bipush 8, 2) := by decide +kernel
theorem dX1_init_7 : decode cX1_init 7 = .ok (.newarray .long, 2) := by decide +kernel
theorem dX1_init_9 : decode cX1_init 9 = .ok (.putfield 9, 3) := by decide +kernel
theorem dX1_init_12 : decode cX1_init 12 = .ok (.return_, 1) := by decide +kernel
theorem dX1_tell_0 : decode cX1_tell 0 = .ok (.aload_n 0, 1) := by decide +kernel
theorem dX1_tell_1 : decode cX1_tell 1 = .ok (.invokevirtual 19, 3) := by decide +kernel
theorem dX1_tell_4 : decode cX1_tell 4 = .ok (.aload_n 0, 1) := by decide +kernel
theorem dX1_tell_5 : decode cX1_tell 5 = .ok (.lload_n 1, 1) := by decide +kernel
theorem dX1_tell_6 : decode cX1_tell 6 = .ok (.invokevirtual 22, 3) := by decide +kernel
theorem dX1_tell_9 : decode cX1_tell 9 = .ok (.return_, 1) := by decide +kernel
theorem dX1_tell__0 : decode cX1_tell_ 0 = .ok (.aload_n 0, 1) := by decide +kernel
theorem dX1_tell__1 : decode cX1_tell_ 1 = .ok (.invokevirtual 19, 3) := by decide +kernel
theorem dX1_tell__4 : decode cX1_tell_ 4 = .ok (.aload_n 0, 1) := by decide +kernel
theorem dX1_tell__5 : decode cX1_tell_ 5 = .ok (.lload_n 1, 1) := by decide +kernel
theorem dX1_tell__6 : decode cX1_tell_ 6 = .ok (.invokevirtual 22, 3) := by decide +kernel
theorem dX1_tell__9 : decode cX1_tell_ 9 = .ok (.aload_n 0, 1) := by decide +kernel
theorem dX1_tell__10 : decode cX1_tell_ 10 = .ok (.lload_n 3, 1) := by decide +kernel
theorem dX1_tell__11 : decode cX1_tell_ 11 = .ok (.invokevirtual 22, 3) := by decide +kernel
theorem dX1_tell__14 : decode cX1_tell_ 14 = .ok (.return_, 1) := by decide +kernel
theorem dX2_clear_0 : decode cX2_clear 0 = .ok (.aload_n 0, 1) := by decide +kernel
theorem dX2_clear_1 : decode cX2_clear 1 = .ok (.iconst 0, 1) := by decide +kernel
theorem dX2_clear_2 : decode cX2_clear 2 = .ok (.putfield 18, 3) := by decide +kernel
theorem dX2_clear_5 : decode cX2_clear 5 = .ok (.return_, 1) := by decide +kernel
theorem dX2_init_0 : decode cX2_init 0 = .ok (.aload_n 0, 1) := by decide +kernel
theorem dX2_init_1 : decode cX2_init 1 = .ok (.invokespecial 3, 3) := by decide +kernel
theorem dX2_init_4 : decode cX2_init 4 = .ok (.aload_n 0, 1) := by decide +kernel
theorem dX2_init_5 : decode cX2_init 5 = .ok (.bipush 12, 2) := by decide +kernel
theorem dX2_init_7 : decode cX2_init 7 = .ok (.anewarray 11, 3) := by decide +kernel
theorem dX2_init_10 : decode cX2_init 10 = .ok (.putfield 13, 3) := by decide +kernel
theorem dX2_init_13 : decode cX2_init 13 = .ok (.iconst 0, 1) := by decide +kernel
theorem dX2_init_14 : decode cX2_init 14 = .ok (.istore_n 1, 1) := by decide +kernel
theorem dX2_init_15 : decode cX2_init 15 = .ok (.iload_n 1, 1) := by decide +kernel
theorem dX2_init_16 : decode cX2_init 16 = .ok (.bipush 12, 2) := by decide +kernel
theorem dX2_init_18 : decode cX2_init 18 = .ok (.if_icmp .ge 22, 3) := by decide +kernel
theorem dX2_init_21 : decode cX2_init 21 = .ok (.aload_n 0, 1) := by decide +kernel
theorem dX2_init_22 : decode cX2_init 22 = .ok (.getfield 13, 3) := by decide +kernel
theorem dX2_init_25 : decode cX2_init 25 = .ok (.iload_n 1, 1) := by decide +kernel
theorem dX2_init_26 : decode cX2_init 26 = .ok (.new 11, 3) := by decide +kernel
theorem dX2_init_29 : decode cX2_init 29 = .ok (.dup, 1) := by decide +kernel
theorem dX2_init_30 : decode cX2_init 30 = .ok (.invokespecial 17, 3) := by decide +kernel
theorem dX2_init_33 : decode cX2_init 33 = .ok (.aastore, 1) := by decide +kernel
theorem dX2_init_34 : decode cX2_init 34 = .ok (.iinc 1 1, 3) := by decide +kernel
theorem dX2_init_37 : decode cX2_init 37 = .ok (.goto (-22), 3) := by decide +kernel
theorem dX2_init_40 : decode cX2_init 40 = .ok (.return_, 1) := by decide +kernel
theorem dX2_pop_0 : decode cX2_pop 0 = .ok (.aload_n 0, 1) := by decide +kernel
theorem dX2_pop_1 : decode cX2_pop 1 = .ok (.getfield 18, 3) := by decide +kernel
theorem dX2_pop_4 : decode cX2_pop 4 = .ok (.ifCond .ne 5, 3) := by decide +kernel
theorem dX2_pop_7 : decode cX2_pop 7 = .ok (.iconst (-1), 1) := by decide +kernel
theorem dX2_pop_8 : decode cX2_pop 8 = .ok (.ireturn, 1) := by decide +kernel
theorem dX2_pop_9 : decode cX2_pop 9 = .ok (.aload_n 0, 1) := by decide +kernel
theorem dX2_pop_10 : decode cX2_pop 10 = .ok (.aload_n 0, 1) := by decide +kernel
theorem dX2_pop_11 : decode cX2_pop 11 = .ok (.getfield 22, 3) := by decide +kernel
theorem dX2_pop_14 : decode cX2_pop 14 = .ok (.bipush 12, 2) := by decide +kernel
theorem dX2_pop_16 : decode cX2_pop 16 = .ok (.iadd, 1) := by decide +kernel
theorem dX2_pop_17 : decode cX2_pop 17 = .ok (.iconst 1, 1) := by decide +kernel
theorem dX2_pop_18 : decode cX2_pop 18 = .ok (.isub, 1) := by decide +kernel
theorem dX2_pop_19 : decode cX2_pop 19 = .ok (.bipush 12, 2) := by decide +kernel
theorem dX2_pop_21 : decode cX2_pop 21 = .ok (.irem, 1) := by decide +kernel
theorem dX2_pop_22 : decode cX2_pop 22 = .ok (.putfield 22, 3) := by decide +kernel
theorem dX2_pop_25 : decode cX2_pop 25 = .ok (.aload_n 0, 1) := by decide +kernel
theorem dX2_pop_26 : decode cX2_pop 26 = .ok (.dup, 1) := by decide +kernel
theorem dX2_pop_27 : decode cX2_pop 27 = .ok (.getfield 18, 3) := by decide +kernel
theorem dX2_pop_30 : decode cX2_pop 30 = .ok (.iconst 1, 1) := by decide +kernel
theorem dX2_pop_31 : decode cX2_pop 31 = .ok (.isub, 1) := by decide +kernel
theorem dX2_pop_32 : decode cX2_pop 32 = .ok (.putfield 18, 3) := by decide +kernel
theorem dX2_pop_35 : decode cX2_pop 35 = .ok (.aload_n 1, 1) := by decide +kernel
theorem dX2_pop_36 : decode cX2_pop 36 = .ok (.aload_n 0, 1) := by decide +kernel
theorem dX2_pop_37 : decode cX2_pop 37 = .ok (.getfield 13, 3) := by decide +kernel
theorem dX2_pop_40 : decode cX2_pop 40 = .ok (.aload_n 0, 1) := by decide +kernel
theorem dX2_pop_41 : decode cX2_pop 41 = .ok (.getfield 22, 3) := by decide +kernel
theorem dX2_pop_44 : decode cX2_pop 44 = .ok (.aaload, 1) := by decide +kernel
theorem dX2_pop_45 : decode cX2_pop 45 = .ok (.invokevirtual 25, 3) := by decide +kernel
theorem dX2_pop_48 : decode cX2_pop 48 = .ok (.aload_n 0, 1) := by decide +kernel
theorem dX2_pop_49 : decode cX2_pop 49 = .ok (.getfield 18, 3) := by decide +kernel
theorem dX2_pop_52 : decode cX2_pop 52 = .ok (.ireturn, 1) := by decide +kernel
theorem dX2_push_0 : decode cX2_push 0 = .ok (.aload_n 0, 1) := by decide +kernel
theorem dX2_push_1 : decode cX2_push 1 = .ok (.getfield 13, 3) := by decide +kernel
theorem dX2_push_4 : decode cX2_push 4 = .ok (.aload_n 0, 1) := by decide +kernel
theorem dX2_push_5 : decode cX2_push 5 = .ok (.getfield 22, 3) := by decide +kernel
theorem dX2_push_8 : decode cX2_push 8 = .ok (.aaload, 1) := by decide +kernel
theorem dX2_push_9 : decode cX2_push 9 = .ok (.aload_n 1, 1) := by decide +kernel
theorem dX2_push_10 : decode cX2_push 10 = .ok (.invokevirtual 25, 3) := by decide +kernel
theorem dX2_push_13 : decode cX2_push 13 = .ok (.aload_n 0, 1) := by decide +kernel
theorem dX2_push_14 : decode cX2_push 14 = .ok (.aload_n 0, 1) := by decide +kernel
theorem dX2_push_15 : decode cX2_push 15 = .ok (.getfield 22, 3) := by decide +kernel
theorem dX2_push_18 : decode cX2_push 18 = .ok (.iconst 1, 1) := by decide +kernel
theorem dX2_push_19 : decode cX2_push 19 = .ok (.iadd, 1) := by decide +kernel
theorem dX2_push_20 : decode cX2_push 20 = .ok (.bipush 12, 2) := by decide +kernel
theorem dX2_push_22 : decode cX2_push 22 = .ok (.irem, 1) := by decide +kernel
theorem dX2_push_23 : decode cX2_push 23 = .ok (.putfield 22, 3) := by decide +kernel
theorem dX2_push_26 : decode cX2_push 26 = .ok (.aload_n 0, 1) := by decide +kernel
theorem dX2_push_27 : decode cX2_push 27 = .ok (.aload_n 0, 1) := by decide +kernel
theorem dX2_push_28 : decode cX2_push 28 = .ok (.getfield 18, 3) := by decide +kernel
theorem dX2_push_31 : decode cX2_push 31 = .ok (.iconst 1, 1) := by decide +kernel
theorem dX2_push_32 : decode cX2_push 32 = .ok (.iadd, 1) := by decide +kernel
theorem dX2_push_33 : decode cX2_push 33 = .ok (.bipush 12, 2) := by decide +kernel
theorem dX2_push_35 : decode cX2_push 35 = .ok (.invokestatic 29, 3) := by decide +kernel
theorem dX2_push_38 : decode cX2_push 38 = .ok (.putfield 18, 3) := by decide +kernel
theorem dX2_push_41 : decode cX2_push 41 = .ok (.return_, 1) := by decide +kernel
theorem dX3_await_0 : decode cX3_await 0 = .ok (.aload_n 0, 1) := by decide +kernel
theorem dX3_await_1 : decode cX3_await 1 = .ok (.getfield 32, 3) := by decide +kernel
theorem dX3_await_4 : decode cX3_await 4 = .ok (.aload_n 0, 1) := by decide +kernel
theorem dX3_await_5 : decode cX3_await 5 = .ok (.getfield 15, 3) := by decide +kernel
theorem dX3_await_8 : decode cX3_await 8 = .ok (.arraylength, 1) := by decide +kernel
theorem dX3_await_9 : decode cX3_await 9 = .ok (.if_icmp .ge 23, 3) := by decide +kernel
theorem dX3_await_12 : decode cX3_await 12 = .ok (.aload_n 0, 1) := by decide +kernel
theorem dX3_await_13 : decode cX3_await 13 = .ok (.getfield 15, 3) := by decide +kernel
theorem dX3_await_16 : decode cX3_await 16 = .ok (.aload_n 0, 1) := by decide +kernel
theorem dX3_await_17 : decode cX3_await 17 = .ok (.getfield 32, 3) := by decide +kernel
theorem dX3_await_20 : decode cX3_await 20 = .ok (.iload_n 1, 1) := by decide +kernel
theorem dX3_await_21 : decode cX3_await 21 = .ok (.iastore, 1) := by decide +kernel
theorem dX3_await_22 : decode cX3_await 22 = .ok (.aload_n 0, 1) := by decide +kernel
theorem dX3_await_23 : decode cX3_await 23 = .ok (.dup, 1) := by decide +kernel
theorem dX3_await_24 : decode cX3_await 24 = .ok (.getfield 32, 3) := by decide +kernel
theorem dX3_await_27 : decode cX3_await 27 = .ok (.iconst 1, 1) := by decide +kernel
theorem dX3_await_28 : decode cX3_await 28 = .ok (.iadd, 1) := by decide +kernel
theorem dX3_await_29 : decode cX3_await 29 = .ok (.putfield 32, 3) := by decide +kernel
theorem dX3_await_32 : decode cX3_await 32 = .ok (.return_, 1) := by decide +kernel
theorem dX3_begin_0 : decode cX3_begin 0 = .ok (.aload_n 0, 1) := by decide +kernel
theorem dX3_begin_1 : decode cX3_begin 1 = .ok (.iconst 0, 1) := by decide +kernel
theorem dX3_begin_2 : decode cX3_begin 2 = .ok (.putfield 28, 3) := by decide +kernel
theorem dX3_begin_5 : decode cX3_begin 5 = .ok (.aload_n 0, 1) := by decide +kernel
theorem dX3_begin_6 : decode cX3_begin 6 = .ok (.iconst 0, 1) := by decide +kernel
theorem dX3_begin_7 : decode cX3_begin 7 = .ok (.putfield 32, 3) := by decide +kernel
theorem dX3_begin_10 : decode cX3_begin 10 = .ok (.aload_n 0, 1) := by decide +kernel
theorem dX3_begin_11 : decode cX3_begin 11 = .ok (.iconst 0, 1) := by decide +kernel
theorem dX3_begin_12 : decode cX3_begin 12 = .ok (.putfield 35, 3) := by decide +kernel
theorem dX3_begin_15 : decode cX3_begin 15 = .ok (.aload_n 0, 1) := by decide +kernel
theorem dX3_begin_16 : decode cX3_begin 16 = .ok (.iconst 0, 1) := by decide +kernel
theorem dX3_begin_17 : decode cX3_begin 17 = .ok (.putfield 38, 3) := by decide +kernel
theorem dX3_begin_20 : decode cX3_begin 20 = .ok (.aload_n 0, 1) := by decide +kernel
theorem dX3_begin_21 : decode cX3_begin 21 = .ok (.iconst 1, 1) := by decide +kernel
theorem dX3_begin_22 : decode cX3_begin 22 = .ok (.putfield 41, 3) := by decide +kernel
theorem dX3_begin_25 : decode cX3_begin 25 = .ok (.aload_n 0, 1) := by decide +kernel
theorem dX3_begin_26 : decode cX3_begin 26 = .ok (.getfield 21, 3) := by decide +kernel
theorem dX3_begin_29 : decode cX3_begin 29 = .ok (.iconst 0, 1) := by decide +kernel
theorem dX3_begin_30 : decode cX3_begin 30 = .ok (.iconst 0, 1) := by decide +kernel
theorem dX3_begin_31 : decode cX3_begin 31 = .ok (.bastore, 1) := by decide +kernel
theorem dX3_begin_32 : decode cX3_begin 32 = .ok (.return_, 1) := by decide +kernel
theorem dX3_binding_0 : decode cX3_binding 0 = .ok (.iload_n 0, 1) := by decide +kernel
theorem dX3_binding_1 : decode cX3_binding 1 = .ok (.lookupswitch 83 #[(42, 79), (43, 77), (45, 77), (47, 79), (60, 75), (61, 75), (62, 75), (256, 81)], 75) := by decide +kernel
theorem dX3_binding_76 : decode cX3_binding 76 = .ok (.iconst 1, 1) := by decide +kernel
theorem dX3_binding_77 : decode cX3_binding 77 = .ok (.ireturn, 1) := by decide +kernel
theorem dX3_binding_78 : decode cX3_binding 78 = .ok (.iconst 2, 1) := by decide +kernel
theorem dX3_binding_79 : decode cX3_binding 79 = .ok (.ireturn, 1) := by decide +kernel
theorem dX3_binding_80 : decode cX3_binding 80 = .ok (.iconst 3, 1) := by decide +kernel
theorem dX3_binding_81 : decode cX3_binding 81 = .ok (.ireturn, 1) := by decide +kernel
theorem dX3_binding_82 : decode cX3_binding 82 = .ok (.iconst 4, 1) := by decide +kernel
theorem dX3_binding_83 : decode cX3_binding 83 = .ok (.ireturn, 1) := by decide +kernel
theorem dX3_binding_84 : decode cX3_binding 84 = .ok (.iconst 0, 1) := by decide +kernel
theorem dX3_binding_85 : decode cX3_binding 85 = .ok (.ireturn, 1) := by decide +kernel
theorem dX3_closeBracket_0 : decode cX3_closeBracket 0 = .ok (.aload_n 0, 1) := by decide +kernel
theorem dX3_closeBracket_1 : decode cX3_closeBracket 1 = .ok (.getfield 35, 3) := by decide +kernel
theorem dX3_closeBracket_4 : decode cX3_closeBracket 4 = .ok (.ifCond .ne 5, 3) := by decide +kernel
theorem dX3_closeBracket_7 : decode cX3_closeBracket 7 = .ok (.iconst 0, 1) := by decide +kernel
theorem dX3_closeBracket_8 : decode cX3_closeBracket 8 = .ok (.ireturn, 1) := by decide +kernel
theorem dX3_closeBracket_9 : decode cX3_closeBracket 9 = .ok (.aload_n 0, 1) := by decide +kernel
theorem dX3_closeBracket_10 : decode cX3_closeBracket 10 = .ok (.iconst 1, 1) := by decide +kernel
theorem dX3_closeBracket_11 : decode cX3_closeBracket 11 = .ok (.invokevirtual 67, 3) := by decide +kernel
theorem dX3_closeBracket_14 : decode cX3_closeBracket 14 = .ok (.aload_n 0, 1) := by decide +kernel
theorem dX3_closeBracket_15 : decode cX3_closeBracket 15 = .ok (.dup, 1) := by decide +kernel
theorem dX3_closeBracket_16 : decode cX3_closeBracket 16 = .ok (.getfield 35, 3) := by decide +kernel
theorem dX3_closeBracket_19 : decode cX3_closeBracket 19 = .ok (.iconst 1, 1) := by decide +kernel
theorem dX3_closeBracket_20 : decode cX3_closeBracket 20 = .ok (.isub, 1) := by decide +kernel
theorem dX3_closeBracket_21 : decode cX3_closeBracket 21 = .ok (.putfield 35, 3) := by decide +kernel
theorem dX3_closeBracket_24 : decode cX3_closeBracket 24 = .ok (.aload_n 0, 1) := by decide +kernel
theorem dX3_closeBracket_25 : decode cX3_closeBracket 25 = .ok (.iconst 0, 1) := by decide +kernel
theorem dX3_closeBracket_26 : decode cX3_closeBracket 26 = .ok (.aload_n 0, 1) := by decide +kernel
theorem dX3_closeBracket_27 : decode cX3_closeBracket 27 = .ok (.getfield 32, 3) := by decide +kernel
theorem dX3_closeBracket_30 : decode cX3_closeBracket 30 = .ok (.iconst 1, 1) := by decide +kernel
theorem dX3_closeBracket_31 : decode cX3_closeBracket 31 = .ok (.isub, 1) := by decide +kernel
theorem dX3_closeBracket_32 : decode cX3_closeBracket 32 = .ok (.invokestatic 112, 3) := by decide +kernel
theorem dX3_closeBracket_35 : decode cX3_closeBracket 35 = .ok (.putfield 32, 3) := by decide +kernel
theorem dX3_closeBracket_38 : decode cX3_closeBracket 38 = .ok (.iconst 1, 1) := by decide +kernel
theorem dX3_closeBracket_39 : decode cX3_closeBracket 39 = .ok (.ireturn, 1) := by decide +kernel
theorem dX3_emit_0 : decode cX3_emit 0 = .ok (.aload_n 0, 1) := by decide +kernel
theorem dX3_emit_1 : decode cX3_emit 1 = .ok (.getfield 28, 3) := by decide +kernel
theorem dX3_emit_4 : decode cX3_emit 4 = .ok (.aload_n 0, 1) := by decide +kernel
theorem dX3_emit_5 : decode cX3_emit 5 = .ok (.getfield 11, 3) := by decide +kernel
theorem dX3_emit_8 : decode cX3_emit 8 = .ok (.arraylength, 1) := by decide +kernel
theorem dX3_emit_9 : decode cX3_emit 9 = .ok (.if_icmp .ge 23, 3) := by decide +kernel
theorem dX3_emit_12 : decode cX3_emit 12 = .ok (.aload_n 0, 1) := by decide +kernel
theorem dX3_emit_13 : decode cX3_emit 13 = .ok (.getfield 11, 3) := by decide +kernel
theorem dX3_emit_16 : decode cX3_emit 16 = .ok (.aload_n 0, 1) := by decide +kernel
theorem dX3_emit_17 : decode cX3_emit 17 = .ok (.getfield 28, 3) := by decide +kernel
theorem dX3_emit_20 : decode cX3_emit 20 = .ok (.iload_n 1, 1) := by decide +kernel
theorem dX3_emit_21 : decode cX3_emit 21 = .ok (.iastore, 1) := by decide +kernel
theorem dX3_emit_22 : decode cX3_emit 22 = .ok (.aload_n 0, 1) := by decide +kernel
theorem dX3_emit_23 : decode cX3_emit 23 = .ok (.dup, 1) := by decide +kernel
theorem dX3_emit_24 : decode cX3_emit 24 = .ok (.getfield 28, 3) := by decide +kernel
theorem dX3_emit_27 : decode cX3_emit 27 = .ok (.iconst 1, 1) := by decide +kernel
theorem dX3_emit_28 : decode cX3_emit 28 = .ok (.iadd, 1) := by decide +kernel
theorem dX3_emit_29 : decode cX3_emit 29 = .ok (.putfield 28, 3) := by decide +kernel
theorem dX3_emit_32 : decode cX3_emit 32 = .ok (.return_, 1) := by decide +kernel
theorem dX3_init_0 : decode cX3_init 0 = .ok (.aload_n 0, 1) := by decide +kernel
theorem dX3_init_1 : decode cX3_init 1 = .ok (.invokespecial 3, 3) := by decide +kernel
theorem dX3_init_4 : decode cX3_init 4 = .ok (.aload_n 0, 1) := by decide +kernel
theorem dX3_init_5 : decode cX3_init 5 = .ok (.bipush 40, 2) := by decide +kernel
theorem dX3_init_7 : decode cX3_init 7 = .ok (.newarray .int, 2) := by decide +kernel
theorem dX3_init_9 : decode cX3_init 9 = .ok (.putfield 11, 3) := by decide +kernel
theorem dX3_init_12 : decode cX3_init 12 = .ok (.aload_n 0, 1) := by decide +kernel
theorem dX3_init_13 : decode cX3_init 13 = .ok (.bipush 40, 2) := by decide +kernel
theorem dX3_init_15 : decode cX3_init 15 = .ok (.newarray .int, 2) := by decide +kernel
theorem dX3_init_17 : decode cX3_init 17 = .ok (.putfield 15, 3) := by decide +kernel
theorem dX3_init_20 : decode cX3_init 20 = .ok (.aload_n 0, 1) := by decide +kernel
theorem dX3_init_21 : decode cX3_init 21 = .ok (.bipush 40, 2) := by decide +kernel
theorem dX3_init_23 : decode cX3_init 23 = .ok (.newarray .int, 2) := by decide +kernel
theorem dX3_init_25 : decode cX3_init 25 = .ok (.putfield 18, 3) := by decide +kernel
theorem dX3_init_28 : decode cX3_init 28 = .ok (.aload_n 0, 1) := by decide +kernel
theorem dX3_init_29 : decode cX3_init 29 = .ok (.iconst 5, 1) := by decide +kernel
theorem dX3_init_30 : decode cX3_init 30 = .ok (.newarray .boolean, 2) := by decide +kernel
theorem dX3_init_32 : decode cX3_init 32 = .ok (.putfield 21, 3) := by decide +kernel
theorem dX3_init_35 : decode cX3_init 35 = .ok (.aload_n 0, 1) := by decide +kernel
theorem dX3_init_36 : decode cX3_init 36 = .ok (.invokevirtual 25, 3) := by decide +kernel
theorem dX3_init_39 : decode cX3_init 39 = .ok (.return_, 1) := by decide +kernel
theorem dX3_openBracket_0 : decode cX3_openBracket 0 = .ok (.aload_n 0, 1) := by decide +kernel
theorem dX3_openBracket_1 : decode cX3_openBracket 1 = .ok (.getfield 35, 3) := by decide +kernel
theorem dX3_openBracket_4 : decode cX3_openBracket 4 = .ok (.iconst 4, 1) := by decide +kernel
theorem dX3_openBracket_5 : decode cX3_openBracket 5 = .ok (.if_icmp .lt 5, 3) := by decide +kernel
theorem dX3_openBracket_8 : decode cX3_openBracket 8 = .ok (.iconst 0, 1) := by decide +kernel
theorem dX3_openBracket_9 : decode cX3_openBracket 9 = .ok (.ireturn, 1) := by decide +kernel
theorem dX3_openBracket_10 : decode cX3_openBracket 10 = .ok (.aload_n 0, 1) := by decide +kernel
theorem dX3_openBracket_11 : decode cX3_openBracket 11 = .ok (.dup, 1) := by decide +kernel
theorem dX3_openBracket_12 : decode cX3_openBracket 12 = .ok (.getfield 35, 3) := by decide +kernel
theorem dX3_openBracket_15 : decode cX3_openBracket 15 = .ok (.iconst 1, 1) := by decide +kernel
theorem dX3_openBracket_16 : decode cX3_openBracket 16 = .ok (.iadd, 1) := by decide +kernel
theorem dX3_openBracket_17 : decode cX3_openBracket 17 = .ok (.putfield 35, 3) := by decide +kernel
theorem dX3_openBracket_20 : decode cX3_openBracket 20 = .ok (.aload_n 0, 1) := by decide +kernel
theorem dX3_openBracket_21 : decode cX3_openBracket 21 = .ok (.getfield 21, 3) := by decide +kernel
theorem dX3_openBracket_24 : decode cX3_openBracket 24 = .ok (.aload_n 0, 1) := by decide +kernel
theorem dX3_openBracket_25 : decode cX3_openBracket 25 = .ok (.getfield 35, 3) := by decide +kernel
theorem dX3_openBracket_28 : decode cX3_openBracket 28 = .ok (.iconst 0, 1) := by decide +kernel
theorem dX3_openBracket_29 : decode cX3_openBracket 29 = .ok (.bastore, 1) := by decide +kernel
theorem dX3_openBracket_30 : decode cX3_openBracket 30 = .ok (.aload_n 0, 1) := by decide +kernel
theorem dX3_openBracket_31 : decode cX3_openBracket 31 = .ok (.bipush 40, 2) := by decide +kernel
theorem dX3_openBracket_33 : decode cX3_openBracket 33 = .ok (.invokevirtual 85, 3) := by decide +kernel
theorem dX3_openBracket_36 : decode cX3_openBracket 36 = .ok (.iconst 1, 1) := by decide +kernel
theorem dX3_openBracket_37 : decode cX3_openBracket 37 = .ok (.ireturn, 1) := by decide +kernel
theorem dX3_push_0 : decode cX3_push 0 = .ok (.iload_n 1, 1) := by decide +kernel
theorem dX3_push_1 : decode cX3_push 1 = .ok (.aload_n 0, 1) := by decide +kernel
theorem dX3_push_2 : decode cX3_push 2 = .ok (.getfield 18, 3) := by decide +kernel
theorem dX3_push_5 : decode cX3_push 5 = .ok (.arraylength, 1) := by decide +kernel
theorem dX3_push_6 : decode cX3_push 6 = .ok (.if_icmp .lt 5, 3) := by decide +kernel
theorem dX3_push_9 : decode cX3_push 9 = .ok (.iload_n 1, 1) := by decide +kernel
theorem dX3_push_10 : decode cX3_push 10 = .ok (.ireturn, 1) := by decide +kernel
theorem dX3_push_11 : decode cX3_push 11 = .ok (.aload_n 0, 1) := by decide +kernel
theorem dX3_push_12 : decode cX3_push 12 = .ok (.getfield 18, 3) := by decide +kernel
theorem dX3_push_15 : decode cX3_push 15 = .ok (.iload_n 1, 1) := by decide +kernel
theorem dX3_push_16 : decode cX3_push 16 = .ok (.iload_n 2, 1) := by decide +kernel
theorem dX3_push_17 : decode cX3_push 17 = .ok (.iastore, 1) := by decide +kernel
theorem dX3_push_18 : decode cX3_push 18 = .ok (.iload_n 1, 1) := by decide +kernel
theorem dX3_push_19 : decode cX3_push 19 = .ok (.iconst 1, 1) := by decide +kernel
theorem dX3_push_20 : decode cX3_push 20 = .ok (.iadd, 1) := by decide +kernel
theorem dX3_push_21 : decode cX3_push 21 = .ok (.ireturn, 1) := by decide +kernel
theorem dX3_read_0 : decode cX3_read 0 = .ok (.aload_n 1, 1) := by decide +kernel
theorem dX3_read_1 : decode cX3_read 1 = .ok (.getfield 71, 3) := by decide +kernel
theorem dX3_read_4 : decode cX3_read 4 = .ok (.ifCond .ne 9, 3) := by decide +kernel
theorem dX3_read_7 : decode cX3_read 7 = .ok (.aload_n 0, 1) := by decide +kernel
theorem dX3_read_8 : decode cX3_read 8 = .ok (.invokevirtual 25, 3) := by decide +kernel
theorem dX3_read_11 : decode cX3_read 11 = .ok (.iconst (-1), 1) := by decide +kernel
theorem dX3_read_12 : decode cX3_read 12 = .ok (.ireturn, 1) := by decide +kernel
theorem dX3_read_13 : decode cX3_read 13 = .ok (.aload_n 0, 1) := by decide +kernel
theorem dX3_read_14 : decode cX3_read 14 = .ok (.invokevirtual 45, 3) := by decide +kernel
theorem dX3_read_17 : decode cX3_read 17 = .ok (.aload_n 1, 1) := by decide +kernel
theorem dX3_read_18 : decode cX3_read 18 = .ok (.getfield 71, 3) := by decide +kernel
theorem dX3_read_21 : decode cX3_read 21 = .ok (.bipush 40, 2) := by decide +kernel
theorem dX3_read_23 : decode cX3_read 23 = .ok (.invokestatic 75, 3) := by decide +kernel
theorem dX3_read_26 : decode cX3_read 26 = .ok (.istore_n 2, 1) := by decide +kernel
theorem dX3_read_27 : decode cX3_read 27 = .ok (.iconst 0, 1) := by decide +kernel
theorem dX3_read_28 : decode cX3_read 28 = .ok (.istore_n 3, 1) := by decide +kernel
theorem dX3_read_29 : decode cX3_read 29 = .ok (.iload_n 3, 1) := by decide +kernel
theorem dX3_read_30 : decode cX3_read 30 = .ok (.iload_n 2, 1) := by decide +kernel
theorem dX3_read_31 : decode cX3_read 31 = .ok (.if_icmp .ge 47, 3) := by decide +kernel
theorem dX3_read_34 : decode cX3_read 34 = .ok (.aload_n 1, 1) := by decide +kernel
theorem dX3_read_35 : decode cX3_read 35 = .ok (.iload_n 3, 1) := by decide +kernel
theorem dX3_read_36 : decode cX3_read 36 = .ok (.invokevirtual 81, 3) := by decide +kernel
theorem dX3_read_39 : decode cX3_read 39 = .ok (.istore 4, 2) := by decide +kernel
theorem dX3_read_41 : decode cX3_read 41 = .ok (.aload_n 0, 1) := by decide +kernel
theorem dX3_read_42 : decode cX3_read 42 = .ok (.getfield 41, 3) := by decide +kernel
theorem dX3_read_45 : decode cX3_read 45 = .ok (.ifCond .eq 12, 3) := by decide +kernel
theorem dX3_read_48 : decode cX3_read 48 = .ok (.aload_n 0, 1) := by decide +kernel
theorem dX3_read_49 : decode cX3_read 49 = .ok (.iload 4, 2) := by decide +kernel
theorem dX3_read_51 : decode cX3_read 51 = .ok (.invokevirtual 60, 3) := by decide +kernel
theorem dX3_read_54 : decode cX3_read 54 = .ok (.goto 9, 3) := by decide +kernel
theorem dX3_read_57 : decode cX3_read 57 = .ok (.aload_n 0, 1) := by decide +kernel
theorem dX3_read_58 : decode cX3_read 58 = .ok (.iload 4, 2) := by decide +kernel
theorem dX3_read_60 : decode cX3_read 60 = .ok (.invokevirtual 64, 3) := by decide +kernel
theorem dX3_read_63 : decode cX3_read 63 = .ok (.istore 5, 2) := by decide +kernel
theorem dX3_read_65 : decode cX3_read 65 = .ok (.iload 5, 2) := by decide +kernel
theorem dX3_read_67 : decode cX3_read 67 = .ok (.ifCond .ne 5, 3) := by decide +kernel
theorem dX3_read_70 : decode cX3_read 70 = .ok (.iload_n 3, 1) := by decide +kernel
theorem dX3_read_71 : decode cX3_read 71 = .ok (.ireturn, 1) := by decide +kernel
theorem dX3_read_72 : decode cX3_read 72 = .ok (.iinc 3 1, 3) := by decide +kernel
theorem dX3_read_75 : decode cX3_read 75 = .ok (.goto (-46), 3) := by decide +kernel
theorem dX3_read_78 : decode cX3_read 78 = .ok (.aload_n 1, 1) := by decide +kernel
theorem dX3_read_79 : decode cX3_read 79 = .ok (.getfield 71, 3) := by decide +kernel
theorem dX3_read_82 : decode cX3_read 82 = .ok (.bipush 40, 2) := by decide +kernel
theorem dX3_read_84 : decode cX3_read 84 = .ok (.if_icmp .gt 17, 3) := by decide +kernel
theorem dX3_read_87 : decode cX3_read 87 = .ok (.aload_n 0, 1) := by decide +kernel
theorem dX3_read_88 : decode cX3_read 88 = .ok (.getfield 41, 3) := by decide +kernel
theorem dX3_read_91 : decode cX3_read 91 = .ok (.ifCond .ne 10, 3) := by decide +kernel
theorem dX3_read_94 : decode cX3_read 94 = .ok (.aload_n 0, 1) := by decide +kernel
theorem dX3_read_95 : decode cX3_read 95 = .ok (.getfield 35, 3) := by decide +kernel
theorem dX3_read_98 : decode cX3_read 98 = .ok (.ifCond .le 5, 3) := by decide +kernel
theorem dX3_read_101 : decode cX3_read 101 = .ok (.iload_n 2, 1) := by decide +kernel
theorem dX3_read_102 : decode cX3_read 102 = .ok (.ireturn, 1) := by decide +kernel
theorem dX3_read_103 : decode cX3_read 103 = .ok (.aload_n 0, 1) := by decide +kernel
theorem dX3_read_104 : decode cX3_read 104 = .ok (.iconst 1, 1) := by decide +kernel
theorem dX3_read_105 : decode cX3_read 105 = .ok (.invokevirtual 67, 3) := by decide +kernel
theorem dX3_read_108 : decode cX3_read 108 = .ok (.iconst (-1), 1) := by decide +kernel
theorem dX3_read_109 : decode cX3_read 109 = .ok (.ireturn, 1) := by decide +kernel
theorem dX3_readFirst_0 : decode cX3_readFirst 0 = .ok (.aload_n 0, 1) := by decide +kernel
theorem dX3_readFirst_1 : decode cX3_readFirst 1 = .ok (.invokevirtual 45, 3) := by decide +kernel
theorem dX3_readFirst_4 : decode cX3_readFirst 4 = .ok (.iconst 0, 1) := by decide +kernel
theorem dX3_readFirst_5 : decode cX3_readFirst 5 = .ok (.istore_n 1, 1) := by decide +kernel
theorem dX3_readFirst_6 : decode cX3_readFirst 6 = .ok (.iload_n 1, 1) := by decide +kernel
theorem dX3_readFirst_7 : decode cX3_readFirst 7 = .ok (.ldc 48, 2) := by decide +kernel
theorem dX3_readFirst_9 : decode cX3_readFirst 9 = .ok (.invokevirtual 50, 3) := by decide +kernel
theorem dX3_readFirst_12 : decode cX3_readFirst 12 = .ok (.if_icmp .ge 41, 3) := by decide +kernel
theorem dX3_readFirst_15 : decode cX3_readFirst 15 = .ok (.aload_n 0, 1) := by decide +kernel
theorem dX3_readFirst_16 : decode cX3_readFirst 16 = .ok (.getfield 41, 3) := by decide +kernel
theorem dX3_readFirst_19 : decode cX3_readFirst 19 = .ok (.ifCond .eq 17, 3) := by decide +kernel
theorem dX3_readFirst_22 : decode cX3_readFirst 22 = .ok (.aload_n 0, 1) := by decide +kernel
theorem dX3_readFirst_23 : decode cX3_readFirst 23 = .ok (.ldc 48, 2) := by decide +kernel
theorem dX3_readFirst_25 : decode cX3_readFirst 25 = .ok (.iload_n 1, 1) := by decide +kernel
theorem dX3_readFirst_26 : decode cX3_readFirst 26 = .ok (.invokevirtual 56, 3) := by decide +kernel
theorem dX3_readFirst_29 : decode cX3_readFirst 29 = .ok (.invokevirtual 60, 3) := by decide +kernel
theorem dX3_readFirst_32 : decode cX3_readFirst 32 = .ok (.pop, 1) := by decide +kernel
theorem dX3_readFirst_33 : decode cX3_readFirst 33 = .ok (.goto 14, 3) := by decide +kernel
theorem dX3_readFirst_36 : decode cX3_readFirst 36 = .ok (.aload_n 0, 1) := by decide +kernel
theorem dX3_readFirst_37 : decode cX3_readFirst 37 = .ok (.ldc 48, 2) := by decide +kernel
theorem dX3_readFirst_39 : decode cX3_readFirst 39 = .ok (.iload_n 1, 1) := by decide +kernel
theorem dX3_readFirst_40 : decode cX3_readFirst 40 = .ok (.invokevirtual 56, 3) := by decide +kernel
theorem dX3_readFirst_43 : decode cX3_readFirst 43 = .ok (.invokevirtual 64, 3) := by decide +kernel
theorem dX3_readFirst_46 : decode cX3_readFirst 46 = .ok (.pop, 1) := by decide +kernel
theorem dX3_readFirst_47 : decode cX3_readFirst 47 = .ok (.iinc 1 1, 3) := by decide +kernel
theorem dX3_readFirst_50 : decode cX3_readFirst 50 = .ok (.goto (-44), 3) := by decide +kernel
theorem dX3_readFirst_53 : decode cX3_readFirst 53 = .ok (.aload_n 0, 1) := by decide +kernel
theorem dX3_readFirst_54 : decode cX3_readFirst 54 = .ok (.iconst 1, 1) := by decide +kernel
theorem dX3_readFirst_55 : decode cX3_readFirst 55 = .ok (.invokevirtual 67, 3) := by decide +kernel
theorem dX3_readFirst_58 : decode cX3_readFirst 58 = .ok (.return_, 1) := by decide +kernel
theorem dX3_reckon_0 : decode cX3_reckon 0 = .ok (.iload_n 0, 1) := by decide +kernel
theorem dX3_reckon_1 : decode cX3_reckon 1 = .ok (.lookupswitch 104 #[(42, 100), (43, 92), (45, 96), (60, 59), (61, 81), (62, 70)], 59) := by decide +kernel
theorem dX3_reckon_60 : decode cX3_reckon 60 = .ok (.iload_n 1, 1) := by decide +kernel
theorem dX3_reckon_61 : decode cX3_reckon 61 = .ok (.iload_n 2, 1) := by decide +kernel
theorem dX3_reckon_62 : decode cX3_reckon 62 = .ok (.if_icmp .ge 7, 3) := by decide +kernel
theorem dX3_reckon_65 : decode cX3_reckon 65 = .ok (.iconst 1, 1) := by decide +kernel
theorem dX3_reckon_66 : decode cX3_reckon 66 = .ok (.goto 4, 3) := by decide +kernel
theorem dX3_reckon_69 : decode cX3_reckon 69 = .ok (.iconst 0, 1) := by decide +kernel
theorem dX3_reckon_70 : decode cX3_reckon 70 = .ok (.ireturn, 1) := by decide +kernel
theorem dX3_reckon_71 : decode cX3_reckon 71 = .ok (.iload_n 1, 1) := by decide +kernel
theorem dX3_reckon_72 : decode cX3_reckon 72 = .ok (.iload_n 2, 1) := by decide +kernel
theorem dX3_reckon_73 : decode cX3_reckon 73 = .ok (.if_icmp .le 7, 3) := by decide +kernel
theorem dX3_reckon_76 : decode cX3_reckon 76 = .ok (.iconst 1, 1) := by decide +kernel
theorem dX3_reckon_77 : decode cX3_reckon 77 = .ok (.goto 4, 3) := by decide +kernel
theorem dX3_reckon_80 : decode cX3_reckon 80 = .ok (.iconst 0, 1) := by decide +kernel
theorem dX3_reckon_81 : decode cX3_reckon 81 = .ok (.ireturn, 1) := by decide +kernel
theorem dX3_reckon_82 : decode cX3_reckon 82 = .ok (.iload_n 1, 1) := by decide +kernel
theorem dX3_reckon_83 : decode cX3_reckon 83 = .ok (.iload_n 2, 1) := by decide +kernel
theorem dX3_reckon_84 : decode cX3_reckon 84 = .ok (.if_icmp .ne 7, 3) := by decide +kernel
theorem dX3_reckon_87 : decode cX3_reckon 87 = .ok (.iconst 1, 1) := by decide +kernel
theorem dX3_reckon_88 : decode cX3_reckon 88 = .ok (.goto 4, 3) := by decide +kernel
theorem dX3_reckon_91 : decode cX3_reckon 91 = .ok (.iconst 0, 1) := by decide +kernel
theorem dX3_reckon_92 : decode cX3_reckon 92 = .ok (.ireturn, 1) := by decide +kernel
theorem dX3_reckon_93 : decode cX3_reckon 93 = .ok (.iload_n 1, 1) := by decide +kernel
theorem dX3_reckon_94 : decode cX3_reckon 94 = .ok (.iload_n 2, 1) := by decide +kernel
theorem dX3_reckon_95 : decode cX3_reckon 95 = .ok (.iadd, 1) := by decide +kernel
theorem dX3_reckon_96 : decode cX3_reckon 96 = .ok (.ireturn, 1) := by decide +kernel
theorem dX3_reckon_97 : decode cX3_reckon 97 = .ok (.iload_n 1, 1) := by decide +kernel
theorem dX3_reckon_98 : decode cX3_reckon 98 = .ok (.iload_n 2, 1) := by decide +kernel
theorem dX3_reckon_99 : decode cX3_reckon 99 = .ok (.isub, 1) := by decide +kernel
theorem dX3_reckon_100 : decode cX3_reckon 100 = .ok (.ireturn, 1) := by decide +kernel
theorem dX3_reckon_101 : decode cX3_reckon 101 = .ok (.iload_n 1, 1) := by decide +kernel
theorem dX3_reckon_102 : decode cX3_reckon 102 = .ok (.iload_n 2, 1) := by decide +kernel
theorem dX3_reckon_103 : decode cX3_reckon 103 = .ok (.imul, 1) := by decide +kernel
theorem dX3_reckon_104 : decode cX3_reckon 104 = .ok (.ireturn, 1) := by decide +kernel
theorem dX3_reckon_105 : decode cX3_reckon 105 = .ok (.iload_n 2, 1) := by decide +kernel
theorem dX3_reckon_106 : decode cX3_reckon 106 = .ok (.ifCond .ne 7, 3) := by decide +kernel
theorem dX3_reckon_109 : decode cX3_reckon 109 = .ok (.iconst 0, 1) := by decide +kernel
theorem dX3_reckon_110 : decode cX3_reckon 110 = .ok (.goto 6, 3) := by decide +kernel
theorem dX3_reckon_113 : decode cX3_reckon 113 = .ok (.iload_n 1, 1) := by decide +kernel
theorem dX3_reckon_114 : decode cX3_reckon 114 = .ok (.iload_n 2, 1) := by decide +kernel
theorem dX3_reckon_115 : decode cX3_reckon 115 = .ok (.idiv, 1) := by decide +kernel
theorem dX3_reckon_116 : decode cX3_reckon 116 = .ok (.ireturn, 1) := by decide +kernel
theorem dX3_reckonDownTo_0 : decode cX3_reckonDownTo 0 = .ok (.aload_n 0, 1) := by decide +kernel
theorem dX3_reckonDownTo_1 : decode cX3_reckonDownTo 1 = .ok (.getfield 32, 3) := by decide +kernel
theorem dX3_reckonDownTo_4 : decode cX3_reckonDownTo 4 = .ok (.ifCond .le 48, 3) := by decide +kernel
theorem dX3_reckonDownTo_7 : decode cX3_reckonDownTo 7 = .ok (.aload_n 0, 1) := by decide +kernel
theorem dX3_reckonDownTo_8 : decode cX3_reckonDownTo 8 = .ok (.getfield 15, 3) := by decide +kernel
theorem dX3_reckonDownTo_11 : decode cX3_reckonDownTo 11 = .ok (.aload_n 0, 1) := by decide +kernel
theorem dX3_reckonDownTo_12 : decode cX3_reckonDownTo 12 = .ok (.getfield 32, 3) := by decide +kernel
theorem dX3_reckonDownTo_15 : decode cX3_reckonDownTo 15 = .ok (.iconst 1, 1) := by decide +kernel
theorem dX3_reckonDownTo_16 : decode cX3_reckonDownTo 16 = .ok (.isub, 1) := by decide +kernel
theorem dX3_reckonDownTo_17 : decode cX3_reckonDownTo 17 = .ok (.iaload, 1) := by decide +kernel
theorem dX3_reckonDownTo_18 : decode cX3_reckonDownTo 18 = .ok (.invokestatic 109, 3) := by decide +kernel
theorem dX3_reckonDownTo_21 : decode cX3_reckonDownTo 21 = .ok (.iload_n 1, 1) := by decide +kernel
theorem dX3_reckonDownTo_22 : decode cX3_reckonDownTo 22 = .ok (.if_icmp .lt 30, 3) := by decide +kernel
theorem dX3_reckonDownTo_25 : decode cX3_reckonDownTo 25 = .ok (.aload_n 0, 1) := by decide +kernel
theorem dX3_reckonDownTo_26 : decode cX3_reckonDownTo 26 = .ok (.dup, 1) := by decide +kernel
theorem dX3_reckonDownTo_27 : decode cX3_reckonDownTo 27 = .ok (.getfield 32, 3) := by decide +kernel
theorem dX3_reckonDownTo_30 : decode cX3_reckonDownTo 30 = .ok (.iconst 1, 1) := by decide +kernel
theorem dX3_reckonDownTo_31 : decode cX3_reckonDownTo 31 = .ok (.isub, 1) := by decide +kernel
theorem dX3_reckonDownTo_32 : decode cX3_reckonDownTo 32 = .ok (.putfield 32, 3) := by decide +kernel
theorem dX3_reckonDownTo_35 : decode cX3_reckonDownTo 35 = .ok (.aload_n 0, 1) := by decide +kernel
theorem dX3_reckonDownTo_36 : decode cX3_reckonDownTo 36 = .ok (.aload_n 0, 1) := by decide +kernel
theorem dX3_reckonDownTo_37 : decode cX3_reckonDownTo 37 = .ok (.getfield 15, 3) := by decide +kernel
theorem dX3_reckonDownTo_40 : decode cX3_reckonDownTo 40 = .ok (.aload_n 0, 1) := by decide +kernel
theorem dX3_reckonDownTo_41 : decode cX3_reckonDownTo 41 = .ok (.getfield 32, 3) := by decide +kernel
theorem dX3_reckonDownTo_44 : decode cX3_reckonDownTo 44 = .ok (.iaload, 1) := by decide +kernel
theorem dX3_reckonDownTo_45 : decode cX3_reckonDownTo 45 = .ok (.ineg, 1) := by decide +kernel
theorem dX3_reckonDownTo_46 : decode cX3_reckonDownTo 46 = .ok (.invokevirtual 100, 3) := by decide +kernel
theorem dX3_reckonDownTo_49 : decode cX3_reckonDownTo 49 = .ok (.goto (-49), 3) := by decide +kernel
theorem dX3_reckonDownTo_52 : decode cX3_reckonDownTo 52 = .ok (.return_, 1) := by decide +kernel
theorem dX3_takeBehindThing_0 : decode cX3_takeBehindThing 0 = .ok (.iload_n 1, 1) := by decide +kernel
theorem dX3_takeBehindThing_1 : decode cX3_takeBehindThing 1 = .ok (.invokestatic 97, 3) := by decide +kernel
theorem dX3_takeBehindThing_4 : decode cX3_takeBehindThing 4 = .ok (.ifCond .eq 12, 3) := by decide +kernel
theorem dX3_takeBehindThing_7 : decode cX3_takeBehindThing 7 = .ok (.aload_n 0, 1) := by decide +kernel
theorem dX3_takeBehindThing_8 : decode cX3_takeBehindThing 8 = .ok (.iload_n 1, 1) := by decide +kernel
theorem dX3_takeBehindThing_9 : decode cX3_takeBehindThing 9 = .ok (.bipush 48, 2) := by decide +kernel
theorem dX3_takeBehindThing_11 : decode cX3_takeBehindThing 11 = .ok (.isub, 1) := by decide +kernel
theorem dX3_takeBehindThing_12 : decode cX3_takeBehindThing 12 = .ok (.invokevirtual 103, 3) := by decide +kernel
theorem dX3_takeBehindThing_15 : decode cX3_takeBehindThing 15 = .ok (.ireturn, 1) := by decide +kernel
theorem dX3_takeBehindThing_16 : decode cX3_takeBehindThing 16 = .ok (.aload_n 0, 1) := by decide +kernel
theorem dX3_takeBehindThing_17 : decode cX3_takeBehindThing 17 = .ok (.iconst 0, 1) := by decide +kernel
theorem dX3_takeBehindThing_18 : decode cX3_takeBehindThing 18 = .ok (.putfield 38, 3) := by decide +kernel
theorem dX3_takeBehindThing_21 : decode cX3_takeBehindThing 21 = .ok (.iload_n 1, 1) := by decide +kernel
theorem dX3_takeBehindThing_22 : decode cX3_takeBehindThing 22 = .ok (.bipush 41, 2) := by decide +kernel
theorem dX3_takeBehindThing_24 : decode cX3_takeBehindThing 24 = .ok (.if_icmp .ne 8, 3) := by decide +kernel
theorem dX3_takeBehindThing_27 : decode cX3_takeBehindThing 27 = .ok (.aload_n 0, 1) := by decide +kernel
theorem dX3_takeBehindThing_28 : decode cX3_takeBehindThing 28 = .ok (.invokevirtual 106, 3) := by decide +kernel
theorem dX3_takeBehindThing_31 : decode cX3_takeBehindThing 31 = .ok (.ireturn, 1) := by decide +kernel
theorem dX3_takeBehindThing_32 : decode cX3_takeBehindThing 32 = .ok (.iload_n 1, 1) := by decide +kernel
theorem dX3_takeBehindThing_33 : decode cX3_takeBehindThing 33 = .ok (.invokestatic 109, 3) := by decide +kernel
theorem dX3_takeBehindThing_36 : decode cX3_takeBehindThing 36 = .ok (.istore_n 2, 1) := by decide +kernel
theorem dX3_takeBehindThing_37 : decode cX3_takeBehindThing 37 = .ok (.iload_n 2, 1) := by decide +kernel
theorem dX3_takeBehindThing_38 : decode cX3_takeBehindThing 38 = .ok (.ifCond .eq 20, 3) := by decide +kernel
theorem dX3_takeBehindThing_41 : decode cX3_takeBehindThing 41 = .ok (.iload_n 2, 1) := by decide +kernel
theorem dX3_takeBehindThing_42 : decode cX3_takeBehindThing 42 = .ok (.iconst 1, 1) := by decide +kernel
theorem dX3_takeBehindThing_43 : decode cX3_takeBehindThing 43 = .ok (.if_icmp .ne 17, 3) := by decide +kernel
theorem dX3_takeBehindThing_46 : decode cX3_takeBehindThing 46 = .ok (.aload_n 0, 1) := by decide +kernel
theorem dX3_takeBehindThing_47 : decode cX3_takeBehindThing 47 = .ok (.getfield 21, 3) := by decide +kernel
theorem dX3_takeBehindThing_50 : decode cX3_takeBehindThing 50 = .ok (.aload_n 0, 1) := by decide +kernel
theorem dX3_takeBehindThing_51 : decode cX3_takeBehindThing 51 = .ok (.getfield 35, 3) := by decide +kernel
theorem dX3_takeBehindThing_54 : decode cX3_takeBehindThing 54 = .ok (.baload, 1) := by decide +kernel
theorem dX3_takeBehindThing_55 : decode cX3_takeBehindThing 55 = .ok (.ifCond .eq 5, 3) := by decide +kernel
theorem dX3_takeBehindThing_58 : decode cX3_takeBehindThing 58 = .ok (.iconst 0, 1) := by decide +kernel
theorem dX3_takeBehindThing_59 : decode cX3_takeBehindThing 59 = .ok (.ireturn, 1) := by decide +kernel
theorem dX3_takeBehindThing_60 : decode cX3_takeBehindThing 60 = .ok (.aload_n 0, 1) := by decide +kernel
theorem dX3_takeBehindThing_61 : decode cX3_takeBehindThing 61 = .ok (.getfield 21, 3) := by decide +kernel
theorem dX3_takeBehindThing_64 : decode cX3_takeBehindThing 64 = .ok (.aload_n 0, 1) := by decide +kernel
theorem dX3_takeBehindThing_65 : decode cX3_takeBehindThing 65 = .ok (.getfield 35, 3) := by decide +kernel
theorem dX3_takeBehindThing_68 : decode cX3_takeBehindThing 68 = .ok (.aload_n 0, 1) := by decide +kernel
theorem dX3_takeBehindThing_69 : decode cX3_takeBehindThing 69 = .ok (.getfield 21, 3) := by decide +kernel
theorem dX3_takeBehindThing_72 : decode cX3_takeBehindThing 72 = .ok (.aload_n 0, 1) := by decide +kernel
theorem dX3_takeBehindThing_73 : decode cX3_takeBehindThing 73 = .ok (.getfield 35, 3) := by decide +kernel
theorem dX3_takeBehindThing_76 : decode cX3_takeBehindThing 76 = .ok (.baload, 1) := by decide +kernel
theorem dX3_takeBehindThing_77 : decode cX3_takeBehindThing 77 = .ok (.ifCond .ne 8, 3) := by decide +kernel
theorem dX3_takeBehindThing_80 : decode cX3_takeBehindThing 80 = .ok (.iload_n 2, 1) := by decide +kernel
theorem dX3_takeBehindThing_81 : decode cX3_takeBehindThing 81 = .ok (.iconst 1, 1) := by decide +kernel
theorem dX3_takeBehindThing_82 : decode cX3_takeBehindThing 82 = .ok (.if_icmp .ne 7, 3) := by decide +kernel
theorem dX3_takeBehindThing_85 : decode cX3_takeBehindThing 85 = .ok (.iconst 1, 1) := by decide +kernel
theorem dX3_takeBehindThing_86 : decode cX3_takeBehindThing 86 = .ok (.goto 4, 3) := by decide +kernel
theorem dX3_takeBehindThing_89 : decode cX3_takeBehindThing 89 = .ok (.iconst 0, 1) := by decide +kernel
theorem dX3_takeBehindThing_90 : decode cX3_takeBehindThing 90 = .ok (.bastore, 1) := by decide +kernel
theorem dX3_takeBehindThing_91 : decode cX3_takeBehindThing 91 = .ok (.aload_n 0, 1) := by decide +kernel
theorem dX3_takeBehindThing_92 : decode cX3_takeBehindThing 92 = .ok (.iload_n 2, 1) := by decide +kernel
theorem dX3_takeBehindThing_93 : decode cX3_takeBehindThing 93 = .ok (.invokevirtual 67, 3) := by decide +kernel
theorem dX3_takeBehindThing_96 : decode cX3_takeBehindThing 96 = .ok (.aload_n 0, 1) := by decide +kernel
theorem dX3_takeBehindThing_97 : decode cX3_takeBehindThing 97 = .ok (.iload_n 1, 1) := by decide +kernel
theorem dX3_takeBehindThing_98 : decode cX3_takeBehindThing 98 = .ok (.invokevirtual 85, 3) := by decide +kernel
theorem dX3_takeBehindThing_101 : decode cX3_takeBehindThing 101 = .ok (.aload_n 0, 1) := by decide +kernel
theorem dX3_takeBehindThing_102 : decode cX3_takeBehindThing 102 = .ok (.iconst 1, 1) := by decide +kernel
theorem dX3_takeBehindThing_103 : decode cX3_takeBehindThing 103 = .ok (.putfield 41, 3) := by decide +kernel
theorem dX3_takeBehindThing_106 : decode cX3_takeBehindThing 106 = .ok (.iconst 1, 1) := by decide +kernel
theorem dX3_takeBehindThing_107 : decode cX3_takeBehindThing 107 = .ok (.ireturn, 1) := by decide +kernel
theorem dX3_takeDigitMore_0 : decode cX3_takeDigitMore 0 = .ok (.aload_n 0, 1) := by decide +kernel
theorem dX3_takeDigitMore_1 : decode cX3_takeDigitMore 1 = .ok (.getfield 38, 3) := by decide +kernel
theorem dX3_takeDigitMore_4 : decode cX3_takeDigitMore 4 = .ok (.iconst 1, 1) := by decide +kernel
theorem dX3_takeDigitMore_5 : decode cX3_takeDigitMore 5 = .ok (.if_icmp .lt 19, 3) := by decide +kernel
theorem dX3_takeDigitMore_8 : decode cX3_takeDigitMore 8 = .ok (.aload_n 0, 1) := by decide +kernel
theorem dX3_takeDigitMore_9 : decode cX3_takeDigitMore 9 = .ok (.getfield 38, 3) := by decide +kernel
theorem dX3_takeDigitMore_12 : decode cX3_takeDigitMore 12 = .ok (.iconst 3, 1) := by decide +kernel
theorem dX3_takeDigitMore_13 : decode cX3_takeDigitMore 13 = .ok (.if_icmp .ge 11, 3) := by decide +kernel
theorem dX3_takeDigitMore_16 : decode cX3_takeDigitMore 16 = .ok (.aload_n 0, 1) := by decide +kernel
theorem dX3_takeDigitMore_17 : decode cX3_takeDigitMore 17 = .ok (.getfield 28, 3) := by decide +kernel
theorem dX3_takeDigitMore_20 : decode cX3_takeDigitMore 20 = .ok (.iconst 1, 1) := by decide +kernel
theorem dX3_takeDigitMore_21 : decode cX3_takeDigitMore 21 = .ok (.if_icmp .ge 5, 3) := by decide +kernel
theorem dX3_takeDigitMore_24 : decode cX3_takeDigitMore 24 = .ok (.iconst 0, 1) := by decide +kernel
theorem dX3_takeDigitMore_25 : decode cX3_takeDigitMore 25 = .ok (.ireturn, 1) := by decide +kernel
theorem dX3_takeDigitMore_26 : decode cX3_takeDigitMore 26 = .ok (.aload_n 0, 1) := by decide +kernel
theorem dX3_takeDigitMore_27 : decode cX3_takeDigitMore 27 = .ok (.dup, 1) := by decide +kernel
theorem dX3_takeDigitMore_28 : decode cX3_takeDigitMore 28 = .ok (.getfield 38, 3) := by decide +kernel
theorem dX3_takeDigitMore_31 : decode cX3_takeDigitMore 31 = .ok (.iconst 1, 1) := by decide +kernel
theorem dX3_takeDigitMore_32 : decode cX3_takeDigitMore 32 = .ok (.iadd, 1) := by decide +kernel
theorem dX3_takeDigitMore_33 : decode cX3_takeDigitMore 33 = .ok (.putfield 38, 3) := by decide +kernel
theorem dX3_takeDigitMore_36 : decode cX3_takeDigitMore 36 = .ok (.aload_n 0, 1) := by decide +kernel
theorem dX3_takeDigitMore_37 : decode cX3_takeDigitMore 37 = .ok (.getfield 11, 3) := by decide +kernel
theorem dX3_takeDigitMore_40 : decode cX3_takeDigitMore 40 = .ok (.aload_n 0, 1) := by decide +kernel
theorem dX3_takeDigitMore_41 : decode cX3_takeDigitMore 41 = .ok (.getfield 28, 3) := by decide +kernel
theorem dX3_takeDigitMore_44 : decode cX3_takeDigitMore 44 = .ok (.iconst 1, 1) := by decide +kernel
theorem dX3_takeDigitMore_45 : decode cX3_takeDigitMore 45 = .ok (.isub, 1) := by decide +kernel
theorem dX3_takeDigitMore_46 : decode cX3_takeDigitMore 46 = .ok (.aload_n 0, 1) := by decide +kernel
theorem dX3_takeDigitMore_47 : decode cX3_takeDigitMore 47 = .ok (.getfield 11, 3) := by decide +kernel
theorem dX3_takeDigitMore_50 : decode cX3_takeDigitMore 50 = .ok (.aload_n 0, 1) := by decide +kernel
theorem dX3_takeDigitMore_51 : decode cX3_takeDigitMore 51 = .ok (.getfield 28, 3) := by decide +kernel
theorem dX3_takeDigitMore_54 : decode cX3_takeDigitMore 54 = .ok (.iconst 1, 1) := by decide +kernel
theorem dX3_takeDigitMore_55 : decode cX3_takeDigitMore 55 = .ok (.isub, 1) := by decide +kernel
theorem dX3_takeDigitMore_56 : decode cX3_takeDigitMore 56 = .ok (.iaload, 1) := by decide +kernel
theorem dX3_takeDigitMore_57 : decode cX3_takeDigitMore 57 = .ok (.bipush 10, 2) := by decide +kernel
theorem dX3_takeDigitMore_59 : decode cX3_takeDigitMore 59 = .ok (.imul, 1) := by decide +kernel
theorem dX3_takeDigitMore_60 : decode cX3_takeDigitMore 60 = .ok (.iload_n 1, 1) := by decide +kernel
theorem dX3_takeDigitMore_61 : decode cX3_takeDigitMore 61 = .ok (.iadd, 1) := by decide +kernel
theorem dX3_takeDigitMore_62 : decode cX3_takeDigitMore 62 = .ok (.iastore, 1) := by decide +kernel
theorem dX3_takeDigitMore_63 : decode cX3_takeDigitMore 63 = .ok (.iconst 1, 1) := by decide +kernel
theorem dX3_takeDigitMore_64 : decode cX3_takeDigitMore 64 = .ok (.ireturn, 1) := by decide +kernel
theorem dX3_takeThing_0 : decode cX3_takeThing 0 = .ok (.iload_n 1, 1) := by decide +kernel
theorem dX3_takeThing_1 : decode cX3_takeThing 1 = .ok (.bipush 45, 2) := by decide +kernel
theorem dX3_takeThing_3 : decode cX3_takeThing 3 = .ok (.if_icmp .ne 12, 3) := by decide +kernel
theorem dX3_takeThing_6 : decode cX3_takeThing 6 = .ok (.aload_n 0, 1) := by decide +kernel
theorem dX3_takeThing_7 : decode cX3_takeThing 7 = .ok (.sipush 256, 3) := by decide +kernel
theorem dX3_takeThing_10 : decode cX3_takeThing 10 = .ok (.invokevirtual 85, 3) := by decide +kernel
theorem dX3_takeThing_13 : decode cX3_takeThing 13 = .ok (.iconst 1, 1) := by decide +kernel
theorem dX3_takeThing_14 : decode cX3_takeThing 14 = .ok (.ireturn, 1) := by decide +kernel
theorem dX3_takeThing_15 : decode cX3_takeThing 15 = .ok (.iload_n 1, 1) := by decide +kernel
theorem dX3_takeThing_16 : decode cX3_takeThing 16 = .ok (.bipush 40, 2) := by decide +kernel
theorem dX3_takeThing_18 : decode cX3_takeThing 18 = .ok (.if_icmp .ne 8, 3) := by decide +kernel
theorem dX3_takeThing_21 : decode cX3_takeThing 21 = .ok (.aload_n 0, 1) := by decide +kernel
theorem dX3_takeThing_22 : decode cX3_takeThing 22 = .ok (.invokevirtual 88, 3) := by decide +kernel
theorem dX3_takeThing_25 : decode cX3_takeThing 25 = .ok (.ireturn, 1) := by decide +kernel
theorem dX3_takeThing_26 : decode cX3_takeThing 26 = .ok (.ldc 92, 2) := by decide +kernel
theorem dX3_takeThing_28 : decode cX3_takeThing 28 = .ok (.iload_n 1, 1) := by decide +kernel
theorem dX3_takeThing_29 : decode cX3_takeThing 29 = .ok (.i2c, 1) := by decide +kernel
theorem dX3_takeThing_30 : decode cX3_takeThing 30 = .ok (.invokevirtual 94, 3) := by decide +kernel
theorem dX3_takeThing_33 : decode cX3_takeThing 33 = .ok (.istore_n 2, 1) := by decide +kernel
theorem dX3_takeThing_34 : decode cX3_takeThing 34 = .ok (.iload_n 1, 1) := by decide +kernel
theorem dX3_takeThing_35 : decode cX3_takeThing 35 = .ok (.invokestatic 97, 3) := by decide +kernel
theorem dX3_takeThing_38 : decode cX3_takeThing 38 = .ok (.ifCond .ne 9, 3) := by decide +kernel
theorem dX3_takeThing_41 : decode cX3_takeThing 41 = .ok (.iload_n 2, 1) := by decide +kernel
theorem dX3_takeThing_42 : decode cX3_takeThing 42 = .ok (.ifCond .ge 5, 3) := by decide +kernel
theorem dX3_takeThing_45 : decode cX3_takeThing 45 = .ok (.iconst 0, 1) := by decide +kernel
theorem dX3_takeThing_46 : decode cX3_takeThing 46 = .ok (.ireturn, 1) := by decide +kernel
theorem dX3_takeThing_47 : decode cX3_takeThing 47 = .ok (.aload_n 0, 1) := by decide +kernel
theorem dX3_takeThing_48 : decode cX3_takeThing 48 = .ok (.iload_n 2, 1) := by decide +kernel
theorem dX3_takeThing_49 : decode cX3_takeThing 49 = .ok (.ifCond .ge 7, 3) := by decide +kernel
theorem dX3_takeThing_52 : decode cX3_takeThing 52 = .ok (.iconst 1, 1) := by decide +kernel
theorem dX3_takeThing_53 : decode cX3_takeThing 53 = .ok (.goto 4, 3) := by decide +kernel
theorem dX3_takeThing_56 : decode cX3_takeThing 56 = .ok (.iconst 0, 1) := by decide +kernel
theorem dX3_takeThing_57 : decode cX3_takeThing 57 = .ok (.putfield 38, 3) := by decide +kernel
theorem dX3_takeThing_60 : decode cX3_takeThing 60 = .ok (.aload_n 0, 1) := by decide +kernel
theorem dX3_takeThing_61 : decode cX3_takeThing 61 = .ok (.iload_n 2, 1) := by decide +kernel
theorem dX3_takeThing_62 : decode cX3_takeThing 62 = .ok (.ifCond .ge 10, 3) := by decide +kernel
theorem dX3_takeThing_65 : decode cX3_takeThing 65 = .ok (.iload_n 1, 1) := by decide +kernel
theorem dX3_takeThing_66 : decode cX3_takeThing 66 = .ok (.bipush 48, 2) := by decide +kernel
theorem dX3_takeThing_68 : decode cX3_takeThing 68 = .ok (.isub, 1) := by decide +kernel
theorem dX3_takeThing_69 : decode cX3_takeThing 69 = .ok (.goto 6, 3) := by decide +kernel
theorem dX3_takeThing_72 : decode cX3_takeThing 72 = .ok (.iconst (-1), 1) := by decide +kernel
theorem dX3_takeThing_73 : decode cX3_takeThing 73 = .ok (.iload_n 2, 1) := by decide +kernel
theorem dX3_takeThing_74 : decode cX3_takeThing 74 = .ok (.isub, 1) := by decide +kernel
theorem dX3_takeThing_75 : decode cX3_takeThing 75 = .ok (.invokevirtual 100, 3) := by decide +kernel
theorem dX3_takeThing_78 : decode cX3_takeThing 78 = .ok (.aload_n 0, 1) := by decide +kernel
theorem dX3_takeThing_79 : decode cX3_takeThing 79 = .ok (.iconst 0, 1) := by decide +kernel
theorem dX3_takeThing_80 : decode cX3_takeThing 80 = .ok (.putfield 41, 3) := by decide +kernel
theorem dX3_takeThing_83 : decode cX3_takeThing 83 = .ok (.iconst 1, 1) := by decide +kernel
theorem dX3_takeThing_84 : decode cX3_takeThing 84 = .ok (.ireturn, 1) := by decide +kernel
theorem dX3_value_0 : decode cX3_value 0 = .ok (.iconst 0, 1) := by decide +kernel
theorem dX3_value_1 : decode cX3_value 1 = .ok (.istore_n 2, 1) := by decide +kernel
theorem dX3_value_2 : decode cX3_value 2 = .ok (.iconst 0, 1) := by decide +kernel
theorem dX3_value_3 : decode cX3_value 3 = .ok (.istore_n 3, 1) := by decide +kernel
theorem dX3_value_4 : decode cX3_value 4 = .ok (.iload_n 3, 1) := by decide +kernel
theorem dX3_value_5 : decode cX3_value 5 = .ok (.aload_n 0, 1) := by decide +kernel
theorem dX3_value_6 : decode cX3_value 6 = .ok (.getfield 28, 3) := by decide +kernel
theorem dX3_value_9 : decode cX3_value 9 = .ok (.if_icmp .ge 125, 3) := by decide +kernel
theorem dX3_value_12 : decode cX3_value 12 = .ok (.aload_n 0, 1) := by decide +kernel
theorem dX3_value_13 : decode cX3_value 13 = .ok (.getfield 11, 3) := by decide +kernel
theorem dX3_value_16 : decode cX3_value 16 = .ok (.iload_n 3, 1) := by decide +kernel
theorem dX3_value_17 : decode cX3_value 17 = .ok (.iaload, 1) := by decide +kernel
theorem dX3_value_18 : decode cX3_value 18 = .ok (.istore 4, 2) := by decide +kernel
theorem dX3_value_20 : decode cX3_value 20 = .ok (.iload 4, 2) := by decide +kernel
theorem dX3_value_22 : decode cX3_value 22 = .ok (.ifCond .lt 14, 3) := by decide +kernel
theorem dX3_value_25 : decode cX3_value 25 = .ok (.aload_n 0, 1) := by decide +kernel
theorem dX3_value_26 : decode cX3_value 26 = .ok (.iload_n 2, 1) := by decide +kernel
theorem dX3_value_27 : decode cX3_value 27 = .ok (.iload 4, 2) := by decide +kernel
theorem dX3_value_29 : decode cX3_value 29 = .ok (.invokevirtual 115, 3) := by decide +kernel
theorem dX3_value_32 : decode cX3_value 32 = .ok (.istore_n 2, 1) := by decide +kernel
theorem dX3_value_33 : decode cX3_value 33 = .ok (.goto 95, 3) := by decide +kernel
theorem dX3_value_36 : decode cX3_value 36 = .ok (.iconst (-1), 1) := by decide +kernel
theorem dX3_value_37 : decode cX3_value 37 = .ok (.iload 4, 2) := by decide +kernel
theorem dX3_value_39 : decode cX3_value 39 = .ok (.isub, 1) := by decide +kernel
theorem dX3_value_40 : decode cX3_value 40 = .ok (.aload_n 1, 1) := by decide +kernel
theorem dX3_value_41 : decode cX3_value 41 = .ok (.arraylength, 1) := by decide +kernel
theorem dX3_value_42 : decode cX3_value 42 = .ok (.if_icmp .ge 18, 3) := by decide +kernel
theorem dX3_value_45 : decode cX3_value 45 = .ok (.aload_n 0, 1) := by decide +kernel
theorem dX3_value_46 : decode cX3_value 46 = .ok (.iload_n 2, 1) := by decide +kernel
theorem dX3_value_47 : decode cX3_value 47 = .ok (.aload_n 1, 1) := by decide +kernel
theorem dX3_value_48 : decode cX3_value 48 = .ok (.iconst (-1), 1) := by decide +kernel
theorem dX3_value_49 : decode cX3_value 49 = .ok (.iload 4, 2) := by decide +kernel
theorem dX3_value_51 : decode cX3_value 51 = .ok (.isub, 1) := by decide +kernel
theorem dX3_value_52 : decode cX3_value 52 = .ok (.iaload, 1) := by decide +kernel
theorem dX3_value_53 : decode cX3_value 53 = .ok (.invokevirtual 115, 3) := by decide +kernel
theorem dX3_value_56 : decode cX3_value 56 = .ok (.istore_n 2, 1) := by decide +kernel
theorem dX3_value_57 : decode cX3_value 57 = .ok (.goto 71, 3) := by decide +kernel
theorem dX3_value_60 : decode cX3_value 60 = .ok (.iload 4, 2) := by decide +kernel
theorem dX3_value_62 : decode cX3_value 62 = .ok (.sipush (-256), 3) := by decide +kernel
theorem dX3_value_65 : decode cX3_value 65 = .ok (.if_icmp .ne 27, 3) := by decide +kernel
theorem dX3_value_68 : decode cX3_value 68 = .ok (.iload_n 2, 1) := by decide +kernel
theorem dX3_value_69 : decode cX3_value 69 = .ok (.ifCond .le 23, 3) := by decide +kernel
theorem dX3_value_72 : decode cX3_value 72 = .ok (.aload_n 0, 1) := by decide +kernel
theorem dX3_value_73 : decode cX3_value 73 = .ok (.getfield 18, 3) := by decide +kernel
theorem dX3_value_76 : decode cX3_value 76 = .ok (.iload_n 2, 1) := by decide +kernel
theorem dX3_value_77 : decode cX3_value 77 = .ok (.iconst 1, 1) := by decide +kernel
theorem dX3_value_78 : decode cX3_value 78 = .ok (.isub, 1) := by decide +kernel
theorem dX3_value_79 : decode cX3_value 79 = .ok (.aload_n 0, 1) := by decide +kernel
theorem dX3_value_80 : decode cX3_value 80 = .ok (.getfield 18, 3) := by decide +kernel
theorem dX3_value_83 : decode cX3_value 83 = .ok (.iload_n 2, 1) := by decide +kernel
theorem dX3_value_84 : decode cX3_value 84 = .ok (.iconst 1, 1) := by decide +kernel
theorem dX3_value_85 : decode cX3_value 85 = .ok (.isub, 1) := by decide +kernel
theorem dX3_value_86 : decode cX3_value 86 = .ok (.iaload, 1) := by decide +kernel
theorem dX3_value_87 : decode cX3_value 87 = .ok (.ineg, 1) := by decide +kernel
theorem dX3_value_88 : decode cX3_value 88 = .ok (.iastore, 1) := by decide +kernel
theorem dX3_value_89 : decode cX3_value 89 = .ok (.goto 39, 3) := by decide +kernel
theorem dX3_value_92 : decode cX3_value 92 = .ok (.iload_n 2, 1) := by decide +kernel
theorem dX3_value_93 : decode cX3_value 93 = .ok (.iconst 1, 1) := by decide +kernel
theorem dX3_value_94 : decode cX3_value 94 = .ok (.if_icmp .le 34, 3) := by decide +kernel
theorem dX3_value_97 : decode cX3_value 97 = .ok (.iinc 2 (-1), 3) := by decide +kernel
theorem dX3_value_100 : decode cX3_value 100 = .ok (.aload_n 0, 1) := by decide +kernel
theorem dX3_value_101 : decode cX3_value 101 = .ok (.getfield 18, 3) := by decide +kernel
