theorem dX8_heldParts_41 : decode cX8_heldParts 41 = .ok (.invokestatic 221, 3) := by decide +kernel
theorem dX8_heldParts_44 : decode cX8_heldParts 44 = .ok (.istore 7, 2) := by decide +kernel
theorem dX8_heldParts_46 : decode cX8_heldParts 46 = .ok (.lload_n 3, 1) := by decide +kernel
theorem dX8_heldParts_47 : decode cX8_heldParts 47 = .ok (.bipush 10, 2) := by decide +kernel
theorem dX8_heldParts_49 : decode cX8_heldParts 49 = .ok (.iload_n 2, 1) := by decide +kernel
theorem dX8_heldParts_50 : decode cX8_heldParts 50 = .ok (.isub, 1) := by decide +kernel
theorem dX8_heldParts_51 : decode cX8_heldParts 51 = .ok (.i2l, 1) := by decide +kernel
theorem dX8_heldParts_52 : decode cX8_heldParts 52 = .ok (.iload 7, 2) := by decide +kernel
theorem dX8_heldParts_54 : decode cX8_heldParts 54 = .ok (.invokestatic 382, 3) := by decide +kernel
theorem dX8_heldParts_57 : decode cX8_heldParts 57 = .ok (.iload_n 2, 1) := by decide +kernel
theorem dX8_heldParts_58 : decode cX8_heldParts 58 = .ok (.i2l, 1) := by decide +kernel
theorem dX8_heldParts_59 : decode cX8_heldParts 59 = .ok (.iload 5, 2) := by decide +kernel
theorem dX8_heldParts_61 : decode cX8_heldParts 61 = .ok (.iload 7, 2) := by decide +kernel
theorem dX8_heldParts_63 : decode cX8_heldParts 63 = .ok (.isub, 1) := by decide +kernel
theorem dX8_heldParts_64 : decode cX8_heldParts 64 = .ok (.invokestatic 382, 3) := by decide +kernel
theorem dX8_heldParts_67 : decode cX8_heldParts 67 = .ok (.lmul, 1) := by decide +kernel
theorem dX8_heldParts_68 : decode cX8_heldParts 68 = .ok (.ladd, 1) := by decide +kernel
theorem dX8_heldParts_69 : decode cX8_heldParts 69 = .ok (.lstore_n 3, 1) := by decide +kernel
theorem dX8_heldParts_70 : decode cX8_heldParts 70 = .ok (.iinc 6 1, 3) := by decide +kernel
theorem dX8_heldParts_73 : decode cX8_heldParts 73 = .ok (.goto (-62), 3) := by decide +kernel
theorem dX8_heldParts_76 : decode cX8_heldParts 76 = .ok (.lload_n 3, 1) := by decide +kernel
theorem dX8_heldParts_77 : decode cX8_heldParts 77 = .ok (.lreturn, 1) := by decide +kernel
theorem dX8_here_0 : decode cX8_here 0 = .ok (.aload_n 0, 1) := by decide +kernel
theorem dX8_here_1 : decode cX8_here 1 = .ok (.getfield 143, 3) := by decide +kernel
theorem dX8_here_4 : decode cX8_here 4 = .ok (.aload_n 0, 1) := by decide +kernel
theorem dX8_here_5 : decode cX8_here 5 = .ok (.getfield 137, 3) := by decide +kernel
theorem dX8_here_8 : decode cX8_here 8 = .ok (.if_icmp .ge 30, 3) := by decide +kernel
theorem dX8_here_11 : decode cX8_here 11 = .ok (.aload_n 0, 1) := by decide +kernel
theorem dX8_here_12 : decode cX8_here 12 = .ok (.getfield 143, 3) := by decide +kernel
theorem dX8_here_15 : decode cX8_here 15 = .ok (.aload_n 0, 1) := by decide +kernel
theorem dX8_here_16 : decode cX8_here 16 = .ok (.getfield 140, 3) := by decide +kernel
theorem dX8_here_19 : decode cX8_here 19 = .ok (.if_icmp .ge 19, 3) := by decide +kernel
theorem dX8_here_22 : decode cX8_here 22 = .ok (.aload_n 0, 1) := by decide +kernel
theorem dX8_here_23 : decode cX8_here 23 = .ok (.getfield 134, 3) := by decide +kernel
theorem dX8_here_26 : decode cX8_here 26 = .ok (.aload_n 0, 1) := by decide +kernel
theorem dX8_here_27 : decode cX8_here 27 = .ok (.getfield 143, 3) := by decide +kernel
theorem dX8_here_30 : decode cX8_here 30 = .ok (.baload, 1) := by decide +kernel
theorem dX8_here_31 : decode cX8_here 31 = .ok (.sipush 255, 3) := by decide +kernel
theorem dX8_here_34 : decode cX8_here 34 = .ok (.iand, 1) := by decide +kernel
theorem dX8_here_35 : decode cX8_here 35 = .ok (.goto 4, 3) := by decide +kernel
theorem dX8_here_38 : decode cX8_here 38 = .ok (.iconst (-1), 1) := by decide +kernel
theorem dX8_here_39 : decode cX8_here 39 = .ok (.ireturn, 1) := by decide +kernel
theorem dX8_hoursOf_0 : decode cX8_hoursOf 0 = .ok (.iconst 0, 1) := by decide +kernel
theorem dX8_hoursOf_1 : decode cX8_hoursOf 1 = .ok (.istore_n 3, 1) := by decide +kernel
theorem dX8_hoursOf_2 : decode cX8_hoursOf 2 = .ok (.iconst 0, 1) := by decide +kernel
theorem dX8_hoursOf_3 : decode cX8_hoursOf 3 = .ok (.istore 4, 2) := by decide +kernel
theorem dX8_hoursOf_5 : decode cX8_hoursOf 5 = .ok (.iload 4, 2) := by decide +kernel
theorem dX8_hoursOf_7 : decode cX8_hoursOf 7 = .ok (.bipush 8, 2) := by decide +kernel
theorem dX8_hoursOf_9 : decode cX8_hoursOf 9 = .ok (.if_icmp .ge 28, 3) := by decide +kernel
theorem dX8_hoursOf_12 : decode cX8_hoursOf 12 = .ok (.iload_n 3, 1) := by decide +kernel
theorem dX8_hoursOf_13 : decode cX8_hoursOf 13 = .ok (.aload_n 1, 1) := by decide +kernel
theorem dX8_hoursOf_14 : decode cX8_hoursOf 14 = .ok (.iload 4, 2) := by decide +kernel
theorem dX8_hoursOf_16 : decode cX8_hoursOf 16 = .ok (.iaload, 1) := by decide +kernel
theorem dX8_hoursOf_17 : decode cX8_hoursOf 17 = .ok (.iload_n 2, 1) := by decide +kernel
theorem dX8_hoursOf_18 : decode cX8_hoursOf 18 = .ok (.if_icmp .ne 10, 3) := by decide +kernel
theorem dX8_hoursOf_21 : decode cX8_hoursOf 21 = .ok (.iconst 1, 1) := by decide +kernel
theorem dX8_hoursOf_22 : decode cX8_hoursOf 22 = .ok (.iload 4, 2) := by decide +kernel
theorem dX8_hoursOf_24 : decode cX8_hoursOf 24 = .ok (.ishl, 1) := by decide +kernel
theorem dX8_hoursOf_25 : decode cX8_hoursOf 25 = .ok (.goto 4, 3) := by decide +kernel
theorem dX8_hoursOf_28 : decode cX8_hoursOf 28 = .ok (.iconst 0, 1) := by decide +kernel
theorem dX8_hoursOf_29 : decode cX8_hoursOf 29 = .ok (.ior, 1) := by decide +kernel
theorem dX8_hoursOf_30 : decode cX8_hoursOf 30 = .ok (.istore_n 3, 1) := by decide +kernel
theorem dX8_hoursOf_31 : decode cX8_hoursOf 31 = .ok (.iinc 4 1, 3) := by decide +kernel
theorem dX8_hoursOf_34 : decode cX8_hoursOf 34 = .ok (.goto (-29), 3) := by decide +kernel
theorem dX8_hoursOf_37 : decode cX8_hoursOf 37 = .ok (.iload_n 3, 1) := by decide +kernel
theorem dX8_hoursOf_38 : decode cX8_hoursOf 38 = .ok (.ireturn, 1) := by decide +kernel
theorem dX8_ill_0 : decode cX8_ill 0 = .ok (.aload_n 0, 1) := by decide +kernel
theorem dX8_ill_1 : decode cX8_ill 1 = .ok (.iconst 0, 1) := by decide +kernel
theorem dX8_ill_2 : decode cX8_ill 2 = .ok (.putfield 114, 3) := by decide +kernel
theorem dX8_ill_5 : decode cX8_ill 5 = .ok (.aload_n 0, 1) := by decide +kernel
theorem dX8_ill_6 : decode cX8_ill 6 = .ok (.iload_n 1, 1) := by decide +kernel
theorem dX8_ill_7 : decode cX8_ill 7 = .ok (.invokevirtual 127, 3) := by decide +kernel
theorem dX8_ill_10 : decode cX8_ill 10 = .ok (.ifCond .ne 5, 3) := by decide +kernel
theorem dX8_ill_13 : decode cX8_ill 13 = .ok (.iconst (-1), 1) := by decide +kernel
theorem dX8_ill_14 : decode cX8_ill 14 = .ok (.ireturn, 1) := by decide +kernel
theorem dX8_ill_15 : decode cX8_ill 15 = .ok (.aload_n 0, 1) := by decide +kernel
theorem dX8_ill_16 : decode cX8_ill 16 = .ok (.aload_n 0, 1) := by decide +kernel
theorem dX8_ill_17 : decode cX8_ill 17 = .ok (.getfield 9, 3) := by decide +kernel
theorem dX8_ill_20 : decode cX8_ill 20 = .ok (.invokevirtual 253, 3) := by decide +kernel
theorem dX8_ill_23 : decode cX8_ill 23 = .ok (.aload_n 0, 1) := by decide +kernel
theorem dX8_ill_24 : decode cX8_ill 24 = .ok (.getfield 9, 3) := by decide +kernel
theorem dX8_ill_27 : decode cX8_ill 27 = .ok (.bipush 16, 2) := by decide +kernel
theorem dX8_ill_29 : decode cX8_ill 29 = .ok (.iload_n 1, 1) := by decide +kernel
theorem dX8_ill_30 : decode cX8_ill 30 = .ok (.iadd, 1) := by decide +kernel
theorem dX8_ill_31 : decode cX8_ill 31 = .ok (.iconst 1, 1) := by decide +kernel
theorem dX8_ill_32 : decode cX8_ill 32 = .ok (.aload_n 0, 1) := by decide +kernel
theorem dX8_ill_33 : decode cX8_ill 33 = .ok (.getfield 9, 3) := by decide +kernel
theorem dX8_ill_36 : decode cX8_ill 36 = .ok (.bipush 16, 2) := by decide +kernel
theorem dX8_ill_38 : decode cX8_ill 38 = .ok (.iload_n 1, 1) := by decide +kernel
theorem dX8_ill_39 : decode cX8_ill 39 = .ok (.iadd, 1) := by decide +kernel
theorem dX8_ill_40 : decode cX8_ill 40 = .ok (.iaload, 1) := by decide +kernel
theorem dX8_ill_41 : decode cX8_ill 41 = .ok (.isub, 1) := by decide +kernel
theorem dX8_ill_42 : decode cX8_ill 42 = .ok (.iastore, 1) := by decide +kernel
theorem dX8_ill_43 : decode cX8_ill 43 = .ok (.aload_n 0, 1) := by decide +kernel
theorem dX8_ill_44 : decode cX8_ill 44 = .ok (.aload_n 0, 1) := by decide +kernel
theorem dX8_ill_45 : decode cX8_ill 45 = .ok (.getfield 9, 3) := by decide +kernel
theorem dX8_ill_48 : decode cX8_ill 48 = .ok (.invokevirtual 261, 3) := by decide +kernel
theorem dX8_ill_51 : decode cX8_ill 51 = .ok (.invokestatic 221, 3) := by decide +kernel
theorem dX8_ill_54 : decode cX8_ill 54 = .ok (.ireturn, 1) := by decide +kernel
theorem dX8_illBits_0 : decode cX8_illBits 0 = .ok (.iconst 0, 1) := by decide +kernel
theorem dX8_illBits_1 : decode cX8_illBits 1 = .ok (.istore_n 2, 1) := by decide +kernel
theorem dX8_illBits_2 : decode cX8_illBits 2 = .ok (.iconst 0, 1) := by decide +kernel
theorem dX8_illBits_3 : decode cX8_illBits 3 = .ok (.istore_n 3, 1) := by decide +kernel
theorem dX8_illBits_4 : decode cX8_illBits 4 = .ok (.iload_n 3, 1) := by decide +kernel
theorem dX8_illBits_5 : decode cX8_illBits 5 = .ok (.aload_n 0, 1) := by decide +kernel
theorem dX8_illBits_6 : decode cX8_illBits 6 = .ok (.getfield 120, 3) := by decide +kernel
theorem dX8_illBits_9 : decode cX8_illBits 9 = .ok (.if_icmp .ge 20, 3) := by decide +kernel
theorem dX8_illBits_12 : decode cX8_illBits 12 = .ok (.iload_n 2, 1) := by decide +kernel
theorem dX8_illBits_13 : decode cX8_illBits 13 = .ok (.aload_n 1, 1) := by decide +kernel
theorem dX8_illBits_14 : decode cX8_illBits 14 = .ok (.bipush 16, 2) := by decide +kernel
theorem dX8_illBits_16 : decode cX8_illBits 16 = .ok (.iload_n 3, 1) := by decide +kernel
theorem dX8_illBits_17 : decode cX8_illBits 17 = .ok (.iadd, 1) := by decide +kernel
theorem dX8_illBits_18 : decode cX8_illBits 18 = .ok (.iaload, 1) := by decide +kernel
theorem dX8_illBits_19 : decode cX8_illBits 19 = .ok (.iload_n 3, 1) := by decide +kernel
theorem dX8_illBits_20 : decode cX8_illBits 20 = .ok (.ishl, 1) := by decide +kernel
theorem dX8_illBits_21 : decode cX8_illBits 21 = .ok (.ior, 1) := by decide +kernel
theorem dX8_illBits_22 : decode cX8_illBits 22 = .ok (.istore_n 2, 1) := by decide +kernel
theorem dX8_illBits_23 : decode cX8_illBits 23 = .ok (.iinc 3 1, 3) := by decide +kernel
theorem dX8_illBits_26 : decode cX8_illBits 26 = .ok (.goto (-22), 3) := by decide +kernel
theorem dX8_illBits_29 : decode cX8_illBits 29 = .ok (.iload_n 2, 1) := by decide +kernel
theorem dX8_illBits_30 : decode cX8_illBits 30 = .ok (.ireturn, 1) := by decide +kernel
theorem dX8_in_0 : decode cX8_in 0 = .ok (.iload_n 0, 1) := by decide +kernel
theorem dX8_in_1 : decode cX8_in 1 = .ok (.iload_n 1, 1) := by decide +kernel
theorem dX8_in_2 : decode cX8_in 2 = .ok (.if_icmp .lt 12, 3) := by decide +kernel
theorem dX8_in_5 : decode cX8_in 5 = .ok (.iload_n 0, 1) := by decide +kernel
theorem dX8_in_6 : decode cX8_in 6 = .ok (.iload_n 2, 1) := by decide +kernel
theorem dX8_in_7 : decode cX8_in 7 = .ok (.if_icmp .gt 7, 3) := by decide +kernel
theorem dX8_in_10 : decode cX8_in 10 = .ok (.iconst 1, 1) := by decide +kernel
theorem dX8_in_11 : decode cX8_in 11 = .ok (.goto 4, 3) := by decide +kernel
theorem dX8_in_14 : decode cX8_in 14 = .ok (.iconst 0, 1) := by decide +kernel
theorem dX8_in_15 : decode cX8_in 15 = .ok (.ireturn, 1) := by decide +kernel
theorem dX8_init_0 : decode cX8_init 0 = .ok (.aload_n 0, 1) := by decide +kernel
theorem dX8_init_1 : decode cX8_init 1 = .ok (.invokespecial 3, 3) := by decide +kernel
theorem dX8_init_4 : decode cX8_init 4 = .ok (.aload_n 0, 1) := by decide +kernel
theorem dX8_init_5 : decode cX8_init 5 = .ok (.bipush 27, 2) := by decide +kernel
theorem dX8_init_7 : decode cX8_init 7 = .ok (.newarray .int, 2) := by decide +kernel
theorem dX8_init_9 : decode cX8_init 9 = .ok (.putfield 9, 3) := by decide +kernel
theorem dX8_init_12 : decode cX8_init 12 = .ok (.aload_n 0, 1) := by decide +kernel
theorem dX8_init_13 : decode cX8_init 13 = .ok (.bipush 8, 2) := by decide +kernel
theorem dX8_init_15 : decode cX8_init 15 = .ok (.putfield 13, 3) := by decide +kernel
theorem dX8_init_18 : decode cX8_init 18 = .ok (.aload_n 0, 1) := by decide +kernel
theorem dX8_init_19 : decode cX8_init 19 = .ok (.iconst 4, 1) := by decide +kernel
theorem dX8_init_20 : decode cX8_init 20 = .ok (.putfield 17, 3) := by decide +kernel
theorem dX8_init_23 : decode cX8_init 23 = .ok (.aload_n 0, 1) := by decide +kernel
theorem dX8_init_24 : decode cX8_init 24 = .ok (.bipush 8, 2) := by decide +kernel
theorem dX8_init_26 : decode cX8_init 26 = .ok (.newarray .int, 2) := by decide +kernel
theorem dX8_init_28 : decode cX8_init 28 = .ok (.putfield 20, 3) := by decide +kernel
theorem dX8_init_31 : decode cX8_init 31 = .ok (.aload_n 0, 1) := by decide +kernel
theorem dX8_init_32 : decode cX8_init 32 = .ok (.bipush 8, 2) := by decide +kernel
theorem dX8_init_34 : decode cX8_init 34 = .ok (.newarray .int, 2) := by decide +kernel
theorem dX8_init_36 : decode cX8_init 36 = .ok (.putfield 23, 3) := by decide +kernel
theorem dX8_init_39 : decode cX8_init 39 = .ok (.aload_n 0, 1) := by decide +kernel
theorem dX8_init_40 : decode cX8_init 40 = .ok (.bipush 8, 2) := by decide +kernel
theorem dX8_init_42 : decode cX8_init 42 = .ok (.newarray .int, 2) := by decide +kernel
theorem dX8_init_44 : decode cX8_init 44 = .ok (.putfield 26, 3) := by decide +kernel
theorem dX8_init_47 : decode cX8_init 47 = .ok (.aload_n 0, 1) := by decide +kernel
theorem dX8_init_48 : decode cX8_init 48 = .ok (.bipush 80, 2) := by decide +kernel
theorem dX8_init_50 : decode cX8_init 50 = .ok (.newarray .byte, 2) := by decide +kernel
theorem dX8_init_52 : decode cX8_init 52 = .ok (.putfield 29, 3) := by decide +kernel
theorem dX8_init_55 : decode cX8_init 55 = .ok (.aload_n 0, 1) := by decide +kernel
theorem dX8_init_56 : decode cX8_init 56 = .ok (.bipush 16, 2) := by decide +kernel
theorem dX8_init_58 : decode cX8_init 58 = .ok (.newarray .long, 2) := by decide +kernel
theorem dX8_init_60 : decode cX8_init 60 = .ok (.putfield 33, 3) := by decide +kernel
theorem dX8_init_63 : decode cX8_init 63 = .ok (.aload_n 0, 1) := by decide +kernel
theorem dX8_init_64 : decode cX8_init 64 = .ok (.bipush 24, 2) := by decide +kernel
theorem dX8_init_66 : decode cX8_init 66 = .ok (.newarray .int, 2) := by decide +kernel
theorem dX8_init_68 : decode cX8_init 68 = .ok (.putfield 37, 3) := by decide +kernel
theorem dX8_init_71 : decode cX8_init 71 = .ok (.aload_n 0, 1) := by decide +kernel
theorem dX8_init_72 : decode cX8_init 72 = .ok (.bipush 40, 2) := by decide +kernel
theorem dX8_init_74 : decode cX8_init 74 = .ok (.newarray .byte, 2) := by decide +kernel
theorem dX8_init_76 : decode cX8_init 76 = .ok (.putfield 40, 3) := by decide +kernel
theorem dX8_init_79 : decode cX8_init 79 = .ok (.aload_n 0, 1) := by decide +kernel
theorem dX8_init_80 : decode cX8_init 80 = .ok (.bipush 40, 2) := by decide +kernel
theorem dX8_init_82 : decode cX8_init 82 = .ok (.newarray .byte, 2) := by decide +kernel
theorem dX8_init_84 : decode cX8_init 84 = .ok (.putfield 43, 3) := by decide +kernel
theorem dX8_init_87 : decode cX8_init 87 = .ok (.aload_n 0, 1) := by decide +kernel
theorem dX8_init_88 : decode cX8_init 88 = .ok (.bipush 7, 2) := by decide +kernel
theorem dX8_init_90 : decode cX8_init 90 = .ok (.newarray .int, 2) := by decide +kernel
theorem dX8_init_92 : decode cX8_init 92 = .ok (.putfield 46, 3) := by decide +kernel
theorem dX8_init_95 : decode cX8_init 95 = .ok (.aload_n 0, 1) := by decide +kernel
theorem dX8_init_96 : decode cX8_init 96 = .ok (.sipush 324, 3) := by decide +kernel
theorem dX8_init_99 : decode cX8_init 99 = .ok (.newarray .int, 2) := by decide +kernel
theorem dX8_init_101 : decode cX8_init 101 = .ok (.putfield 49, 3) := by decide +kernel
theorem dX8_init_104 : decode cX8_init 104 = .ok (.aload_n 0, 1) := by decide +kernel
theorem dX8_init_105 : decode cX8_init 105 = .ok (.bipush 27, 2) := by decide +kernel
theorem dX8_init_107 : decode cX8_init 107 = .ok (.newarray .int, 2) := by decide +kernel
theorem dX8_init_109 : decode cX8_init 109 = .ok (.putfield 52, 3) := by decide +kernel
theorem dX8_init_112 : decode cX8_init 112 = .ok (.aload_n 0, 1) := by decide +kernel
theorem dX8_init_113 : decode cX8_init 113 = .ok (.bipush 27, 2) := by decide +kernel
theorem dX8_init_115 : decode cX8_init 115 = .ok (.newarray .int, 2) := by decide +kernel
theorem dX8_init_117 : decode cX8_init 117 = .ok (.putfield 55, 3) := by decide +kernel
theorem dX8_init_120 : decode cX8_init 120 = .ok (.aload_n 0, 1) := by decide +kernel
theorem dX8_init_121 : decode cX8_init 121 = .ok (.bipush 8, 2) := by decide +kernel
theorem dX8_init_123 : decode cX8_init 123 = .ok (.newarray .int, 2) := by decide +kernel
theorem dX8_init_125 : decode cX8_init 125 = .ok (.putfield 58, 3) := by decide +kernel
theorem dX8_init_128 : decode cX8_init 128 = .ok (.aload_n 0, 1) := by decide +kernel
theorem dX8_init_129 : decode cX8_init 129 = .ok (.bipush 8, 2) := by decide +kernel
theorem dX8_init_131 : decode cX8_init 131 = .ok (.newarray .int, 2) := by decide +kernel
theorem dX8_init_133 : decode cX8_init 133 = .ok (.putfield 61, 3) := by decide +kernel
theorem dX8_init_136 : decode cX8_init 136 = .ok (.aload_n 0, 1) := by decide +kernel
theorem dX8_init_137 : decode cX8_init 137 = .ok (.sipush 240, 3) := by decide +kernel
theorem dX8_init_140 : decode cX8_init 140 = .ok (.newarray .int, 2) := by decide +kernel
theorem dX8_init_142 : decode cX8_init 142 = .ok (.putfield 64, 3) := by decide +kernel
theorem dX8_init_145 : decode cX8_init 145 = .ok (.aload_n 0, 1) := by decide +kernel
theorem dX8_init_146 : decode cX8_init 146 = .ok (.bipush 8, 2) := by decide +kernel
theorem dX8_init_148 : decode cX8_init 148 = .ok (.newarray .int, 2) := by decide +kernel
theorem dX8_init_150 : decode cX8_init 150 = .ok (.putfield 67, 3) := by decide +kernel
theorem dX8_init_153 : decode cX8_init 153 = .ok (.aload_n 0, 1) := by decide +kernel
theorem dX8_init_154 : decode cX8_init 154 = .ok (.bipush 8, 2) := by decide +kernel
theorem dX8_init_156 : decode cX8_init 156 = .ok (.newarray .int, 2) := by decide +kernel
theorem dX8_init_158 : decode cX8_init 158 = .ok (.putfield 70, 3) := by decide +kernel
theorem dX8_init_161 : decode cX8_init 161 = .ok (.aload_n 0, 1) := by decide +kernel
theorem dX8_init_162 : decode cX8_init 162 = .ok (.bipush 8, 2) := by decide +kernel
theorem dX8_init_164 : decode cX8_init 164 = .ok (.newarray .int, 2) := by decide +kernel
theorem dX8_init_166 : decode cX8_init 166 = .ok (.putfield 73, 3) := by decide +kernel
theorem dX8_init_169 : decode cX8_init 169 = .ok (.aload_n 0, 1) := by decide +kernel
theorem dX8_init_170 : decode cX8_init 170 = .ok (.bipush 8, 2) := by decide +kernel
theorem dX8_init_172 : decode cX8_init 172 = .ok (.newarray .int, 2) := by decide +kernel
theorem dX8_init_174 : decode cX8_init 174 = .ok (.putfield 76, 3) := by decide +kernel
theorem dX8_init_177 : decode cX8_init 177 = .ok (.aload_n 0, 1) := by decide +kernel
theorem dX8_init_178 : decode cX8_init 178 = .ok (.bipush 64, 2) := by decide +kernel
theorem dX8_init_180 : decode cX8_init 180 = .ok (.newarray .int, 2) := by decide +kernel
theorem dX8_init_182 : decode cX8_init 182 = .ok (.putfield 79, 3) := by decide +kernel
theorem dX8_init_185 : decode cX8_init 185 = .ok (.aload_n 0, 1) := by decide +kernel
theorem dX8_init_186 : decode cX8_init 186 = .ok (.sipush 2304, 3) := by decide +kernel
theorem dX8_init_189 : decode cX8_init 189 = .ok (.newarray .int, 2) := by decide +kernel
theorem dX8_init_191 : decode cX8_init 191 = .ok (.putfield 82, 3) := by decide +kernel
theorem dX8_init_194 : decode cX8_init 194 = .ok (.aload_n 0, 1) := by decide +kernel
theorem dX8_init_195 : decode cX8_init 195 = .ok (.sipush 2304, 3) := by decide +kernel
theorem dX8_init_198 : decode cX8_init 198 = .ok (.newarray .int, 2) := by decide +kernel
theorem dX8_init_200 : decode cX8_init 200 = .ok (.putfield 85, 3) := by decide +kernel
theorem dX8_init_203 : decode cX8_init 203 = .ok (.aload_n 0, 1) := by decide +kernel
theorem dX8_init_204 : decode cX8_init 204 = .ok (.ldc 88, 2) := by decide +kernel
theorem dX8_init_206 : decode cX8_init 206 = .ok (.putfield 89, 3) := by decide +kernel
theorem dX8_init_209 : decode cX8_init 209 = .ok (.aload_n 0, 1) := by decide +kernel
theorem dX8_init_210 : decode cX8_init 210 = .ok (.bipush 8, 2) := by decide +kernel
theorem dX8_init_212 : decode cX8_init 212 = .ok (.newarray .int, 2) := by decide +kernel
theorem dX8_init_214 : decode cX8_init 214 = .ok (.putfield 92, 3) := by decide +kernel
theorem dX8_init_217 : decode cX8_init 217 = .ok (.aload_n 0, 1) := by decide +kernel
theorem dX8_init_218 : decode cX8_init 218 = .ok (.sipush 256, 3) := by decide +kernel
theorem dX8_init_221 : decode cX8_init 221 = .ok (.newarray .boolean, 2) := by decide +kernel
theorem dX8_init_223 : decode cX8_init 223 = .ok (.putfield 95, 3) := by decide +kernel
theorem dX8_init_226 : decode cX8_init 226 = .ok (.aload_n 0, 1) := by decide +kernel
theorem dX8_init_227 : decode cX8_init 227 = .ok (.bipush 12, 2) := by decide +kernel
theorem dX8_init_229 : decode cX8_init 229 = .ok (.newarray .int, 2) := by decide +kernel
theorem dX8_init_231 : decode cX8_init 231 = .ok (.putfield 99, 3) := by decide +kernel
theorem dX8_init_234 : decode cX8_init 234 = .ok (.aload_n 0, 1) := by decide +kernel
theorem dX8_init_235 : decode cX8_init 235 = .ok (.bipush 12, 2) := by decide +kernel
theorem dX8_init_237 : decode cX8_init 237 = .ok (.newarray .int, 2) := by decide +kernel
theorem dX8_init_239 : decode cX8_init 239 = .ok (.putfield 102, 3) := by decide +kernel
theorem dX8_init_242 : decode cX8_init 242 = .ok (.aload_n 0, 1) := by decide +kernel
theorem dX8_init_243 : decode cX8_init 243 = .ok (.bipush 54, 2) := by decide +kernel
theorem dX8_init_245 : decode cX8_init 245 = .ok (.newarray .int, 2) := by decide +kernel
theorem dX8_init_247 : decode cX8_init 247 = .ok (.putfield 105, 3) := by decide +kernel
theorem dX8_init_250 : decode cX8_init 250 = .ok (.aload_n 0, 1) := by decide +kernel
theorem dX8_init_251 : decode cX8_init 251 = .ok (.iconst 2, 1) := by decide +kernel
theorem dX8_init_252 : decode cX8_init 252 = .ok (.newarray .boolean, 2) := by decide +kernel
theorem dX8_init_254 : decode cX8_init 254 = .ok (.putfield 108, 3) := by decide +kernel
theorem dX8_init_257 : decode cX8_init 257 = .ok (.aload_n 0, 1) := by decide +kernel
theorem dX8_init_258 : decode cX8_init 258 = .ok (.iconst 2, 1) := by decide +kernel
theorem dX8_init_259 : decode cX8_init 259 = .ok (.newarray .int, 2) := by decide +kernel
theorem dX8_init_261 : decode cX8_init 261 = .ok (.putfield 111, 3) := by decide +kernel
theorem dX8_init_264 : decode cX8_init 264 = .ok (.iconst 0, 1) := by decide +kernel
theorem dX8_init_265 : decode cX8_init 265 = .ok (.istore_n 1, 1) := by decide +kernel
theorem dX8_init_266 : decode cX8_init 266 = .ok (.iload_n 1, 1) := by decide +kernel
theorem dX8_init_267 : decode cX8_init 267 = .ok (.bipush 8, 2) := by decide +kernel
theorem dX8_init_269 : decode cX8_init 269 = .ok (.if_icmp .ge 16, 3) := by decide +kernel
theorem dX8_init_272 : decode cX8_init 272 = .ok (.aload_n 0, 1) := by decide +kernel
theorem dX8_init_273 : decode cX8_init 273 = .ok (.getfield 9, 3) := by decide +kernel
theorem dX8_init_276 : decode cX8_init 276 = .ok (.iload_n 1, 1) := by decide +kernel
theorem dX8_init_277 : decode cX8_init 277 = .ok (.iconst (-1), 1) := by decide +kernel
theorem dX8_init_278 : decode cX8_init 278 = .ok (.iastore, 1) := by decide +kernel
theorem dX8_init_279 : decode cX8_init 279 = .ok (.iinc 1 1, 3) := by decide +kernel
theorem dX8_init_282 : decode cX8_init 282 = .ok (.goto (-16), 3) := by decide +kernel
theorem dX8_init_285 : decode cX8_init 285 = .ok (.return_, 1) := by decide +kernel
theorem dX8_isGift_0 : decode cX8_isGift 0 = .ok (.iload_n 1, 1) := by decide +kernel
theorem dX8_isGift_1 : decode cX8_isGift 1 = .ok (.invokestatic 242, 3) := by decide +kernel
theorem dX8_isGift_4 : decode cX8_isGift 4 = .ok (.ifCond .eq 20, 3) := by decide +kernel
theorem dX8_isGift_7 : decode cX8_isGift 7 = .ok (.iload_n 2, 1) := by decide +kernel
theorem dX8_isGift_8 : decode cX8_isGift 8 = .ok (.iconst (-1), 1) := by decide +kernel
theorem dX8_isGift_9 : decode cX8_isGift 9 = .ok (.if_icmp .eq 11, 3) := by decide +kernel
theorem dX8_isGift_12 : decode cX8_isGift 12 = .ok (.aload_n 0, 1) := by decide +kernel
theorem dX8_isGift_13 : decode cX8_isGift 13 = .ok (.iload_n 2, 1) := by decide +kernel
theorem dX8_isGift_14 : decode cX8_isGift 14 = .ok (.invokevirtual 127, 3) := by decide +kernel
theorem dX8_isGift_17 : decode cX8_isGift 17 = .ok (.ifCond .eq 7, 3) := by decide +kernel
theorem dX8_isGift_20 : decode cX8_isGift 20 = .ok (.iconst 1, 1) := by decide +kernel
theorem dX8_isGift_21 : decode cX8_isGift 21 = .ok (.goto 4, 3) := by decide +kernel
theorem dX8_isGift_24 : decode cX8_isGift 24 = .ok (.iconst 0, 1) := by decide +kernel
theorem dX8_isGift_25 : decode cX8_isGift 25 = .ok (.ireturn, 1) := by decide +kernel
theorem dX8_isHour_0 : decode cX8_isHour 0 = .ok (.iload_n 0, 1) := by decide +kernel
theorem dX8_isHour_1 : decode cX8_isHour 1 = .ok (.iconst 0, 1) := by decide +kernel
theorem dX8_isHour_2 : decode cX8_isHour 2 = .ok (.bipush 7, 2) := by decide +kernel
theorem dX8_isHour_4 : decode cX8_isHour 4 = .ok (.invokestatic 123, 3) := by decide +kernel
theorem dX8_isHour_7 : decode cX8_isHour 7 = .ok (.ireturn, 1) := by decide +kernel
theorem dX8_isMan_0 : decode cX8_isMan 0 = .ok (.iload_n 1, 1) := by decide +kernel
theorem dX8_isMan_1 : decode cX8_isMan 1 = .ok (.iconst 0, 1) := by decide +kernel
theorem dX8_isMan_2 : decode cX8_isMan 2 = .ok (.aload_n 0, 1) := by decide +kernel
theorem dX8_isMan_3 : decode cX8_isMan 3 = .ok (.getfield 120, 3) := by decide +kernel
theorem dX8_isMan_6 : decode cX8_isMan 6 = .ok (.iconst 1, 1) := by decide +kernel
theorem dX8_isMan_7 : decode cX8_isMan 7 = .ok (.isub, 1) := by decide +kernel
theorem dX8_isMan_8 : decode cX8_isMan 8 = .ok (.invokestatic 123, 3) := by decide +kernel
theorem dX8_isMan_11 : decode cX8_isMan 11 = .ok (.ireturn, 1) := by decide +kernel
theorem dX8_isRest_0 : decode cX8_isRest 0 = .ok (.iconst 0, 1) := by decide +kernel
theorem dX8_isRest_1 : decode cX8_isRest 1 = .ok (.istore 4, 2) := by decide +kernel
theorem dX8_isRest_3 : decode cX8_isRest 3 = .ok (.iload 4, 2) := by decide +kernel
theorem dX8_isRest_5 : decode cX8_isRest 5 = .ok (.bipush 9, 2) := by decide +kernel
theorem dX8_isRest_7 : decode cX8_isRest 7 = .ok (.if_icmp .gt 43, 3) := by decide +kernel
theorem dX8_isRest_10 : decode cX8_isRest 10 = .ok (.iload 4, 2) := by decide +kernel
theorem dX8_isRest_12 : decode cX8_isRest 12 = .ok (.iload_n 1, 1) := by decide +kernel
theorem dX8_isRest_13 : decode cX8_isRest 13 = .ok (.iload_n 2, 1) := by decide +kernel
theorem dX8_isRest_14 : decode cX8_isRest 14 = .ok (.invokestatic 395, 3) := by decide +kernel
theorem dX8_isRest_17 : decode cX8_isRest 17 = .ok (.iload_n 0, 1) := by decide +kernel
theorem dX8_isRest_18 : decode cX8_isRest 18 = .ok (.iload_n 1, 1) := by decide +kernel
theorem dX8_isRest_19 : decode cX8_isRest 19 = .ok (.iload_n 2, 1) := by decide +kernel
theorem dX8_isRest_20 : decode cX8_isRest 20 = .ok (.invokestatic 395, 3) := by decide +kernel
theorem dX8_isRest_23 : decode cX8_isRest 23 = .ok (.if_icmp .gt 19, 3) := by decide +kernel
theorem dX8_isRest_26 : decode cX8_isRest 26 = .ok (.iload_n 0, 1) := by decide +kernel
theorem dX8_isRest_27 : decode cX8_isRest 27 = .ok (.iload 4, 2) := by decide +kernel
theorem dX8_isRest_29 : decode cX8_isRest 29 = .ok (.iload_n 3, 1) := by decide +kernel
theorem dX8_isRest_30 : decode cX8_isRest 30 = .ok (.invokestatic 398, 3) := by decide +kernel
theorem dX8_isRest_33 : decode cX8_isRest 33 = .ok (.iload_n 0, 1) := by decide +kernel
theorem dX8_isRest_34 : decode cX8_isRest 34 = .ok (.iload_n 1, 1) := by decide +kernel
theorem dX8_isRest_35 : decode cX8_isRest 35 = .ok (.iload_n 3, 1) := by decide +kernel
theorem dX8_isRest_36 : decode cX8_isRest 36 = .ok (.invokestatic 398, 3) := by decide +kernel
theorem dX8_isRest_39 : decode cX8_isRest 39 = .ok (.if_icmp .le 5, 3) := by decide +kernel
theorem dX8_isRest_42 : decode cX8_isRest 42 = .ok (.iconst 0, 1) := by decide +kernel
theorem dX8_isRest_43 : decode cX8_isRest 43 = .ok (.ireturn, 1) := by decide +kernel
theorem dX8_isRest_44 : decode cX8_isRest 44 = .ok (.iinc 4 1, 3) := by decide +kernel
theorem dX8_isRest_47 : decode cX8_isRest 47 = .ok (.goto (-44), 3) := by decide +kernel
theorem dX8_isRest_50 : decode cX8_isRest 50 = .ok (.iconst 1, 1) := by decide +kernel
theorem dX8_isRest_51 : decode cX8_isRest 51 = .ok (.ireturn, 1) := by decide +kernel
theorem dX8_keep_0 : decode cX8_keep 0 = .ok (.aload_n 0, 1) := by decide +kernel
theorem dX8_keep_1 : decode cX8_keep 1 = .ok (.iconst 0, 1) := by decide +kernel
theorem dX8_keep_2 : decode cX8_keep 2 = .ok (.putfield 114, 3) := by decide +kernel
theorem dX8_keep_5 : decode cX8_keep 5 = .ok (.iload_n 1, 1) := by decide +kernel
theorem dX8_keep_6 : decode cX8_keep 6 = .ok (.iconst 0, 1) := by decide +kernel
theorem dX8_keep_7 : decode cX8_keep 7 = .ok (.iconst 1, 1) := by decide +kernel
theorem dX8_keep_8 : decode cX8_keep 8 = .ok (.invokestatic 123, 3) := by decide +kernel
theorem dX8_keep_11 : decode cX8_keep 11 = .ok (.ifCond .ne 5, 3) := by decide +kernel
theorem dX8_keep_14 : decode cX8_keep 14 = .ok (.iconst 0, 1) := by decide +kernel
theorem dX8_keep_15 : decode cX8_keep 15 = .ok (.ireturn, 1) := by decide +kernel
theorem dX8_keep_16 : decode cX8_keep 16 = .ok (.aload_n 0, 1) := by decide +kernel
theorem dX8_keep_17 : decode cX8_keep 17 = .ok (.getfield 108, 3) := by decide +kernel
theorem dX8_keep_20 : decode cX8_keep 20 = .ok (.iload_n 1, 1) := by decide +kernel
theorem dX8_keep_21 : decode cX8_keep 21 = .ok (.iconst 1, 1) := by decide +kernel
theorem dX8_keep_22 : decode cX8_keep 22 = .ok (.bastore, 1) := by decide +kernel
theorem dX8_keep_23 : decode cX8_keep 23 = .ok (.aload_n 0, 1) := by decide +kernel
theorem dX8_keep_24 : decode cX8_keep 24 = .ok (.getfield 111, 3) := by decide +kernel
theorem dX8_keep_27 : decode cX8_keep 27 = .ok (.iload_n 1, 1) := by decide +kernel
theorem dX8_keep_28 : decode cX8_keep 28 = .ok (.aload_n 0, 1) := by decide +kernel
theorem dX8_keep_29 : decode cX8_keep 29 = .ok (.getfield 185, 3) := by decide +kernel
theorem dX8_keep_32 : decode cX8_keep 32 = .ok (.iastore, 1) := by decide +kernel
theorem dX8_keep_33 : decode cX8_keep 33 = .ok (.aload_n 0, 1) := by decide +kernel
theorem dX8_keep_34 : decode cX8_keep 34 = .ok (.getfield 9, 3) := by decide +kernel
theorem dX8_keep_37 : decode cX8_keep 37 = .ok (.aload_n 0, 1) := by decide +kernel
theorem dX8_keep_38 : decode cX8_keep 38 = .ok (.getfield 105, 3) := by decide +kernel
theorem dX8_keep_41 : decode cX8_keep 41 = .ok (.bipush 27, 2) := by decide +kernel
theorem dX8_keep_43 : decode cX8_keep 43 = .ok (.iload_n 1, 1) := by decide +kernel
theorem dX8_keep_44 : decode cX8_keep 44 = .ok (.imul, 1) := by decide +kernel
theorem dX8_keep_45 : decode cX8_keep 45 = .ok (.invokestatic 249, 3) := by decide +kernel
theorem dX8_keep_48 : decode cX8_keep 48 = .ok (.iconst 1, 1) := by decide +kernel
theorem dX8_keep_49 : decode cX8_keep 49 = .ok (.ireturn, 1) := by decide +kernel
theorem dX8_keepMay_0 : decode cX8_keepMay 0 = .ok (.iconst 0, 1) := by decide +kernel
theorem dX8_keepMay_1 : decode cX8_keepMay 1 = .ok (.istore_n 1, 1) := by decide +kernel
theorem dX8_keepMay_2 : decode cX8_keepMay 2 = .ok (.iload_n 1, 1) := by decide +kernel
theorem dX8_keepMay_3 : decode cX8_keepMay 3 = .ok (.bipush 8, 2) := by decide +kernel
theorem dX8_keepMay_5 : decode cX8_keepMay 5 = .ok (.if_icmp .ge 33, 3) := by decide +kernel
theorem dX8_keepMay_8 : decode cX8_keepMay 8 = .ok (.aload_n 0, 1) := by decide +kernel
theorem dX8_keepMay_9 : decode cX8_keepMay 9 = .ok (.getfield 73, 3) := by decide +kernel
theorem dX8_keepMay_12 : decode cX8_keepMay 12 = .ok (.iload_n 1, 1) := by decide +kernel
theorem dX8_keepMay_13 : decode cX8_keepMay 13 = .ok (.aload_n 0, 1) := by decide +kernel
theorem dX8_keepMay_14 : decode cX8_keepMay 14 = .ok (.getfield 67, 3) := by decide +kernel
theorem dX8_keepMay_17 : decode cX8_keepMay 17 = .ok (.iload_n 1, 1) := by decide +kernel
theorem dX8_keepMay_18 : decode cX8_keepMay 18 = .ok (.iaload, 1) := by decide +kernel
theorem dX8_keepMay_19 : decode cX8_keepMay 19 = .ok (.iastore, 1) := by decide +kernel
theorem dX8_keepMay_20 : decode cX8_keepMay 20 = .ok (.aload_n 0, 1) := by decide +kernel
theorem dX8_keepMay_21 : decode cX8_keepMay 21 = .ok (.getfield 76, 3) := by decide +kernel
theorem dX8_keepMay_24 : decode cX8_keepMay 24 = .ok (.iload_n 1, 1) := by decide +kernel
theorem dX8_keepMay_25 : decode cX8_keepMay 25 = .ok (.aload_n 0, 1) := by decide +kernel
theorem dX8_keepMay_26 : decode cX8_keepMay 26 = .ok (.getfield 70, 3) := by decide +kernel
theorem dX8_keepMay_29 : decode cX8_keepMay 29 = .ok (.iload_n 1, 1) := by decide +kernel
theorem dX8_keepMay_30 : decode cX8_keepMay 30 = .ok (.iaload, 1) := by decide +kernel
theorem dX8_keepMay_31 : decode cX8_keepMay 31 = .ok (.iastore, 1) := by decide +kernel
theorem dX8_keepMay_32 : decode cX8_keepMay 32 = .ok (.iinc 1 1, 3) := by decide +kernel
theorem dX8_keepMay_35 : decode cX8_keepMay 35 = .ok (.goto (-33), 3) := by decide +kernel
theorem dX8_keepMay_38 : decode cX8_keepMay 38 = .ok (.return_, 1) := by decide +kernel
theorem dX8_keystone_0 : decode cX8_keystone 0 = .ok (.aload_n 0, 1) := by decide +kernel
theorem dX8_keystone_1 : decode cX8_keystone 1 = .ok (.iconst 0, 1) := by decide +kernel
theorem dX8_keystone_2 : decode cX8_keystone 2 = .ok (.putfield 114, 3) := by decide +kernel
theorem dX8_keystone_5 : decode cX8_keystone 5 = .ok (.iload_n 1, 1) := by decide +kernel
theorem dX8_keystone_6 : decode cX8_keystone 6 = .ok (.iconst 0, 1) := by decide +kernel
theorem dX8_keystone_7 : decode cX8_keystone 7 = .ok (.bipush 10, 2) := by decide +kernel
theorem dX8_keystone_9 : decode cX8_keystone 9 = .ok (.invokestatic 123, 3) := by decide +kernel
theorem dX8_keystone_12 : decode cX8_keystone 12 = .ok (.ifCond .ne 5, 3) := by decide +kernel
theorem dX8_keystone_15 : decode cX8_keystone 15 = .ok (.iconst (-1), 1) := by decide +kernel
theorem dX8_keystone_16 : decode cX8_keystone 16 = .ok (.ireturn, 1) := by decide +kernel
theorem dX8_keystone_17 : decode cX8_keystone 17 = .ok (.aload_n 0, 1) := by decide +kernel
theorem dX8_keystone_18 : decode cX8_keystone 18 = .ok (.invokevirtual 386, 3) := by decide +kernel
theorem dX8_keystone_21 : decode cX8_keystone 21 = .ok (.istore_n 2, 1) := by decide +kernel
theorem dX8_keystone_22 : decode cX8_keystone 22 = .ok (.iload_n 2, 1) := by decide +kernel
theorem dX8_keystone_23 : decode cX8_keystone 23 = .ok (.ifCond .ne 6, 3) := by decide +kernel
theorem dX8_keystone_26 : decode cX8_keystone 26 = .ok (.bipush (-2), 2) := by decide +kernel
theorem dX8_keystone_28 : decode cX8_keystone 28 = .ok (.ireturn, 1) := by decide +kernel
theorem dX8_keystone_29 : decode cX8_keystone 29 = .ok (.aload_n 0, 1) := by decide +kernel
theorem dX8_keystone_30 : decode cX8_keystone 30 = .ok (.invokevirtual 347, 3) := by decide +kernel
theorem dX8_keystone_33 : decode cX8_keystone 33 = .ok (.iconst (-1), 1) := by decide +kernel
theorem dX8_keystone_34 : decode cX8_keystone 34 = .ok (.istore_n 3, 1) := by decide +kernel
theorem dX8_keystone_35 : decode cX8_keystone 35 = .ok (.lconst 0, 1) := by decide +kernel
theorem dX8_keystone_36 : decode cX8_keystone 36 = .ok (.lstore 4, 2) := by decide +kernel
theorem dX8_keystone_38 : decode cX8_keystone 38 = .ok (.iconst 0, 1) := by decide +kernel
theorem dX8_keystone_39 : decode cX8_keystone 39 = .ok (.istore 6, 2) := by decide +kernel
theorem dX8_keystone_41 : decode cX8_keystone 41 = .ok (.iload 6, 2) := by decide +kernel
theorem dX8_keystone_43 : decode cX8_keystone 43 = .ok (.aload_n 0, 1) := by decide +kernel
theorem dX8_keystone_44 : decode cX8_keystone 44 = .ok (.getfield 120, 3) := by decide +kernel
theorem dX8_keystone_47 : decode cX8_keystone 47 = .ok (.if_icmp .ge 59, 3) := by decide +kernel
theorem dX8_keystone_50 : decode cX8_keystone 50 = .ok (.iload_n 2, 1) := by decide +kernel
theorem dX8_keystone_51 : decode cX8_keystone 51 = .ok (.iload 6, 2) := by decide +kernel
theorem dX8_keystone_53 : decode cX8_keystone 53 = .ok (.invokestatic 271, 3) := by decide +kernel
theorem dX8_keystone_56 : decode cX8_keystone 56 = .ok (.ifCond .ne 6, 3) := by decide +kernel
theorem dX8_keystone_59 : decode cX8_keystone 59 = .ok (.goto 41, 3) := by decide +kernel
theorem dX8_keystone_62 : decode cX8_keystone 62 = .ok (.aload_n 0, 1) := by decide +kernel
theorem dX8_keystone_63 : decode cX8_keystone 63 = .ok (.iload_n 2, 1) := by decide +kernel
theorem dX8_keystone_64 : decode cX8_keystone 64 = .ok (.iconst 1, 1) := by decide +kernel
theorem dX8_keystone_65 : decode cX8_keystone 65 = .ok (.iload 6, 2) := by decide +kernel
theorem dX8_keystone_67 : decode cX8_keystone 67 = .ok (.ishl, 1) := by decide +kernel
theorem dX8_keystone_68 : decode cX8_keystone 68 = .ok (.iconst (-1), 1) := by decide +kernel
theorem dX8_keystone_69 : decode cX8_keystone 69 = .ok (.ixor, 1) := by decide +kernel
theorem dX8_keystone_70 : decode cX8_keystone 70 = .ok (.iand, 1) := by decide +kernel
theorem dX8_keystone_71 : decode cX8_keystone 71 = .ok (.iload_n 1, 1) := by decide +kernel
theorem dX8_keystone_72 : decode cX8_keystone 72 = .ok (.invokevirtual 389, 3) := by decide +kernel
theorem dX8_keystone_75 : decode cX8_keystone 75 = .ok (.lstore 7, 2) := by decide +kernel
theorem dX8_keystone_77 : decode cX8_keystone 77 = .ok (.iload_n 3, 1) := by decide +kernel
theorem dX8_keystone_78 : decode cX8_keystone 78 = .ok (.iconst (-1), 1) := by decide +kernel
theorem dX8_keystone_79 : decode cX8_keystone 79 = .ok (.if_icmp .eq 14, 3) := by decide +kernel
theorem dX8_keystone_82 : decode cX8_keystone 82 = .ok (.lload 7, 2) := by decide +kernel
theorem dX8_keystone_84 : decode cX8_keystone 84 = .ok (.lload 4, 2) := by decide +kernel
theorem dX8_keystone_86 : decode cX8_keystone 86 = .ok (.lcmp, 1) := by decide +kernel
theorem dX8_keystone_87 : decode cX8_keystone 87 = .ok (.ifCond .lt 6, 3) := by decide +kernel
theorem dX8_keystone_90 : decode cX8_keystone 90 = .ok (.goto 10, 3) := by decide +kernel
theorem dX8_keystone_93 : decode cX8_keystone 93 = .ok (.iload 6, 2) := by decide +kernel
theorem dX8_keystone_95 : decode cX8_keystone 95 = .ok (.istore_n 3, 1) := by decide +kernel
theorem dX8_keystone_96 : decode cX8_keystone 96 = .ok (.lload 7, 2) := by decide +kernel
theorem dX8_keystone_98 : decode cX8_keystone 98 = .ok (.lstore 4, 2) := by decide +kernel
theorem dX8_keystone_100 : decode cX8_keystone 100 = .ok (.iinc 6 1, 3) := by decide +kernel
theorem dX8_keystone_103 : decode cX8_keystone 103 = .ok (.goto (-62), 3) := by decide +kernel
theorem dX8_keystone_106 : decode cX8_keystone 106 = .ok (.aload_n 0, 1) := by decide +kernel
theorem dX8_keystone_107 : decode cX8_keystone 107 = .ok (.lload 4, 2) := by decide +kernel
theorem dX8_keystone_109 : decode cX8_keystone 109 = .ok (.ldc2_w 393, 3) := by decide +kernel
theorem dX8_keystone_112 : decode cX8_keystone 112 = .ok (.iload_n 2, 1) := by decide +kernel
theorem dX8_keystone_113 : decode cX8_keystone 113 = .ok (.invokestatic 221, 3) := by decide +kernel
theorem dX8_keystone_116 : decode cX8_keystone 116 = .ok (.iconst 1, 1) := by decide +kernel
theorem dX8_keystone_117 : decode cX8_keystone 117 = .ok (.isub, 1) := by decide +kernel
theorem dX8_keystone_118 : decode cX8_keystone 118 = .ok (.invokestatic 382, 3) := by decide +kernel
theorem dX8_keystone_121 : decode cX8_keystone 121 = .ok (.invokevirtual 378, 3) := by decide +kernel
theorem dX8_keystone_124 : decode cX8_keystone 124 = .ok (.iload_n 3, 1) := by decide +kernel
theorem dX8_keystone_125 : decode cX8_keystone 125 = .ok (.ireturn, 1) := by decide +kernel
theorem dX8_later_0 : decode cX8_later 0 = .ok (.aload_n 0, 1) := by decide +kernel
theorem dX8_later_1 : decode cX8_later 1 = .ok (.iconst 0, 1) := by decide +kernel
theorem dX8_later_2 : decode cX8_later 2 = .ok (.putfield 114, 3) := by decide +kernel
theorem dX8_later_5 : decode cX8_later 5 = .ok (.iload_n 1, 1) := by decide +kernel
theorem dX8_later_6 : decode cX8_later 6 = .ok (.iconst 0, 1) := by decide +kernel
theorem dX8_later_7 : decode cX8_later 7 = .ok (.bipush 60, 2) := by decide +kernel
theorem dX8_later_9 : decode cX8_later 9 = .ok (.invokestatic 123, 3) := by decide +kernel
theorem dX8_later_12 : decode cX8_later 12 = .ok (.ifCond .ne 5, 3) := by decide +kernel
theorem dX8_later_15 : decode cX8_later 15 = .ok (.iconst (-1), 1) := by decide +kernel
theorem dX8_later_16 : decode cX8_later 16 = .ok (.ireturn, 1) := by decide +kernel
theorem dX8_later_17 : decode cX8_later 17 = .ok (.aload_n 0, 1) := by decide +kernel
theorem dX8_later_18 : decode cX8_later 18 = .ok (.getfield 9, 3) := by decide +kernel
theorem dX8_later_21 : decode cX8_later 21 = .ok (.aload_n 0, 1) := by decide +kernel
theorem dX8_later_22 : decode cX8_later 22 = .ok (.getfield 55, 3) := by decide +kernel
theorem dX8_later_25 : decode cX8_later 25 = .ok (.iconst 0, 1) := by decide +kernel
theorem dX8_later_26 : decode cX8_later 26 = .ok (.invokestatic 249, 3) := by decide +kernel
theorem dX8_later_29 : decode cX8_later 29 = .ok (.aload_n 0, 1) := by decide +kernel
theorem dX8_later_30 : decode cX8_later 30 = .ok (.aload_n 0, 1) := by decide +kernel
theorem dX8_later_31 : decode cX8_later 31 = .ok (.getfield 55, 3) := by decide +kernel
theorem dX8_later_34 : decode cX8_later 34 = .ok (.iload_n 1, 1) := by decide +kernel
theorem dX8_later_35 : decode cX8_later 35 = .ok (.invokevirtual 280, 3) := by decide +kernel
theorem dX8_later_38 : decode cX8_later 38 = .ok (.iconst 0, 1) := by decide +kernel
theorem dX8_later_39 : decode cX8_later 39 = .ok (.istore_n 2, 1) := by decide +kernel
theorem dX8_later_40 : decode cX8_later 40 = .ok (.iconst 0, 1) := by decide +kernel
theorem dX8_later_41 : decode cX8_later 41 = .ok (.istore_n 3, 1) := by decide +kernel
theorem dX8_later_42 : decode cX8_later 42 = .ok (.iload_n 3, 1) := by decide +kernel
theorem dX8_later_43 : decode cX8_later 43 = .ok (.aload_n 0, 1) := by decide +kernel
theorem dX8_later_44 : decode cX8_later 44 = .ok (.getfield 120, 3) := by decide +kernel
theorem dX8_later_47 : decode cX8_later 47 = .ok (.if_icmp .ge 23, 3) := by decide +kernel
theorem dX8_later_50 : decode cX8_later 50 = .ok (.iload_n 2, 1) := by decide +kernel
theorem dX8_later_51 : decode cX8_later 51 = .ok (.aload_n 0, 1) := by decide +kernel
theorem dX8_later_52 : decode cX8_later 52 = .ok (.getfield 55, 3) := by decide +kernel
theorem dX8_later_55 : decode cX8_later 55 = .ok (.bipush 8, 2) := by decide +kernel
theorem dX8_later_57 : decode cX8_later 57 = .ok (.iload_n 3, 1) := by decide +kernel
theorem dX8_later_58 : decode cX8_later 58 = .ok (.iadd, 1) := by decide +kernel
theorem dX8_later_59 : decode cX8_later 59 = .ok (.iaload, 1) := by decide +kernel
theorem dX8_later_60 : decode cX8_later 60 = .ok (.invokestatic 232, 3) := by decide +kernel
theorem dX8_later_63 : decode cX8_later 63 = .ok (.istore_n 2, 1) := by decide +kernel
theorem dX8_later_64 : decode cX8_later 64 = .ok (.iinc 3 1, 3) := by decide +kernel
theorem dX8_later_67 : decode cX8_later 67 = .ok (.goto (-25), 3) := by decide +kernel
theorem dX8_later_70 : decode cX8_later 70 = .ok (.aload_n 0, 1) := by decide +kernel
theorem dX8_later_71 : decode cX8_later 71 = .ok (.iconst 0, 1) := by decide +kernel
theorem dX8_later_72 : decode cX8_later 72 = .ok (.putfield 117, 3) := by decide +kernel
theorem dX8_later_75 : decode cX8_later 75 = .ok (.aload_n 0, 1) := by decide +kernel
theorem dX8_later_76 : decode cX8_later 76 = .ok (.aload_n 0, 1) := by decide +kernel
theorem dX8_later_77 : decode cX8_later 77 = .ok (.aload_n 0, 1) := by decide +kernel
theorem dX8_later_78 : decode cX8_later 78 = .ok (.getfield 55, 3) := by decide +kernel
theorem dX8_later_81 : decode cX8_later 81 = .ok (.invokevirtual 288, 3) := by decide +kernel
theorem dX8_later_84 : decode cX8_later 84 = .ok (.i2l, 1) := by decide +kernel
theorem dX8_later_85 : decode cX8_later 85 = .ok (.invokevirtual 284, 3) := by decide +kernel
theorem dX8_later_88 : decode cX8_later 88 = .ok (.aload_n 0, 1) := by decide +kernel
theorem dX8_later_89 : decode cX8_later 89 = .ok (.iload_n 2, 1) := by decide +kernel
theorem dX8_later_90 : decode cX8_later 90 = .ok (.i2l, 1) := by decide +kernel
theorem dX8_later_91 : decode cX8_later 91 = .ok (.invokevirtual 284, 3) := by decide +kernel
theorem dX8_later_94 : decode cX8_later 94 = .ok (.aload_n 0, 1) := by decide +kernel
theorem dX8_later_95 : decode cX8_later 95 = .ok (.getfield 55, 3) := by decide +kernel
theorem dX8_later_98 : decode cX8_later 98 = .ok (.bipush 25, 2) := by decide +kernel
theorem dX8_later_100 : decode cX8_later 100 = .ok (.iaload, 1) := by decide +kernel
theorem dX8_later_101 : decode cX8_later 101 = .ok (.aload_n 0, 1) := by decide +kernel
theorem dX8_later_102 : decode cX8_later 102 = .ok (.getfield 9, 3) := by decide +kernel
theorem dX8_later_105 : decode cX8_later 105 = .ok (.bipush 25, 2) := by decide +kernel
theorem dX8_later_107 : decode cX8_later 107 = .ok (.iaload, 1) := by decide +kernel
theorem dX8_later_108 : decode cX8_later 108 = .ok (.isub, 1) := by decide +kernel
theorem dX8_later_109 : decode cX8_later 109 = .ok (.ireturn, 1) := by decide +kernel
theorem dX8_law_0 : decode cX8_law 0 = .ok (.aload_n 0, 1) := by decide +kernel
theorem dX8_law_1 : decode cX8_law 1 = .ok (.iconst 0, 1) := by decide +kernel
theorem dX8_law_2 : decode cX8_law 2 = .ok (.putfield 114, 3) := by decide +kernel
theorem dX8_law_5 : decode cX8_law 5 = .ok (.aload_n 0, 1) := by decide +kernel
theorem dX8_law_6 : decode cX8_law 6 = .ok (.getfield 131, 3) := by decide +kernel
theorem dX8_law_9 : decode cX8_law 9 = .ok (.istore_n 1, 1) := by decide +kernel
theorem dX8_law_10 : decode cX8_law 10 = .ok (.aload_n 0, 1) := by decide +kernel
theorem dX8_law_11 : decode cX8_law 11 = .ok (.invokevirtual 215, 3) := by decide +kernel
theorem dX8_law_14 : decode cX8_law 14 = .ok (.ifCond .ne 12, 3) := by decide +kernel
theorem dX8_law_17 : decode cX8_law 17 = .ok (.sipush (-10000), 3) := by decide +kernel
theorem dX8_law_20 : decode cX8_law 20 = .ok (.aload_n 0, 1) := by decide +kernel
theorem dX8_law_21 : decode cX8_law 21 = .ok (.getfield 146, 3) := by decide +kernel
theorem dX8_law_24 : decode cX8_law 24 = .ok (.isub, 1) := by decide +kernel
theorem dX8_law_25 : decode cX8_law 25 = .ok (.ireturn, 1) := by decide +kernel
theorem dX8_law_26 : decode cX8_law 26 = .ok (.aload_n 0, 1) := by decide +kernel
theorem dX8_law_27 : decode cX8_law 27 = .ok (.invokevirtual 405, 3) := by decide +kernel
theorem dX8_law_30 : decode cX8_law 30 = .ok (.istore_n 2, 1) := by decide +kernel
theorem dX8_law_31 : decode cX8_law 31 = .ok (.aload_n 0, 1) := by decide +kernel
theorem dX8_law_32 : decode cX8_law 32 = .ok (.getfield 40, 3) := by decide +kernel
theorem dX8_law_35 : decode cX8_law 35 = .ok (.astore_n 3, 1) := by decide +kernel
theorem dX8_law_36 : decode cX8_law 36 = .ok (.aload_n 0, 1) := by decide +kernel
theorem dX8_law_37 : decode cX8_law 37 = .ok (.getfield 218, 3) := by decide +kernel
theorem dX8_law_40 : decode cX8_law 40 = .ok (.istore 4, 2) := by decide +kernel
theorem dX8_law_42 : decode cX8_law 42 = .ok (.aload_n 0, 1) := by decide +kernel
theorem dX8_law_43 : decode cX8_law 43 = .ok (.aload_n 0, 1) := by decide +kernel
theorem dX8_law_44 : decode cX8_law 44 = .ok (.getfield 43, 3) := by decide +kernel
theorem dX8_law_47 : decode cX8_law 47 = .ok (.putfield 40, 3) := by decide +kernel
theorem dX8_law_50 : decode cX8_law 50 = .ok (.aload_n 0, 1) := by decide +kernel
theorem dX8_law_51 : decode cX8_law 51 = .ok (.iload_n 1, 1) := by decide +kernel
theorem dX8_law_52 : decode cX8_law 52 = .ok (.putfield 218, 3) := by decide +kernel
theorem dX8_law_55 : decode cX8_law 55 = .ok (.iconst 0, 1) := by decide +kernel
theorem dX8_law_56 : decode cX8_law 56 = .ok (.istore 5, 2) := by decide +kernel
theorem dX8_law_58 : decode cX8_law 58 = .ok (.iload 5, 2) := by decide +kernel
theorem dX8_law_60 : decode cX8_law 60 = .ok (.iload_n 1, 1) := by decide +kernel
theorem dX8_law_61 : decode cX8_law 61 = .ok (.if_icmp .ge 23, 3) := by decide +kernel
theorem dX8_law_64 : decode cX8_law 64 = .ok (.aload_n 0, 1) := by decide +kernel
theorem dX8_law_65 : decode cX8_law 65 = .ok (.getfield 40, 3) := by decide +kernel
theorem dX8_law_68 : decode cX8_law 68 = .ok (.iload 5, 2) := by decide +kernel
theorem dX8_law_70 : decode cX8_law 70 = .ok (.aload_n 0, 1) := by decide +kernel
theorem dX8_law_71 : decode cX8_law 71 = .ok (.getfield 29, 3) := by decide +kernel
theorem dX8_law_74 : decode cX8_law 74 = .ok (.iload 5, 2) := by decide +kernel
theorem dX8_law_76 : decode cX8_law 76 = .ok (.baload, 1) := by decide +kernel
theorem dX8_law_77 : decode cX8_law 77 = .ok (.bastore, 1) := by decide +kernel
theorem dX8_law_78 : decode cX8_law 78 = .ok (.iinc 5 1, 3) := by decide +kernel
theorem dX8_law_81 : decode cX8_law 81 = .ok (.goto (-23), 3) := by decide +kernel
theorem dX8_law_84 : decode cX8_law 84 = .ok (.aload_n 0, 1) := by decide +kernel
theorem dX8_law_85 : decode cX8_law 85 = .ok (.invokevirtual 405, 3) := by decide +kernel
theorem dX8_law_88 : decode cX8_law 88 = .ok (.istore 5, 2) := by decide +kernel
theorem dX8_law_90 : decode cX8_law 90 = .ok (.aload_n 0, 1) := by decide +kernel
theorem dX8_law_91 : decode cX8_law 91 = .ok (.aload_n 3, 1) := by decide +kernel
theorem dX8_law_92 : decode cX8_law 92 = .ok (.putfield 40, 3) := by decide +kernel
theorem dX8_law_95 : decode cX8_law 95 = .ok (.aload_n 0, 1) := by decide +kernel
theorem dX8_law_96 : decode cX8_law 96 = .ok (.iload 4, 2) := by decide +kernel
theorem dX8_law_98 : decode cX8_law 98 = .ok (.putfield 218, 3) := by decide +kernel
theorem dX8_law_101 : decode cX8_law 101 = .ok (.aload_n 0, 1) := by decide +kernel
theorem dX8_law_102 : decode cX8_law 102 = .ok (.iconst 0, 1) := by decide +kernel
theorem dX8_law_103 : decode cX8_law 103 = .ok (.putfield 117, 3) := by decide +kernel
theorem dX8_law_106 : decode cX8_law 106 = .ok (.aload_n 0, 1) := by decide +kernel
theorem dX8_law_107 : decode cX8_law 107 = .ok (.iload 5, 2) := by decide +kernel
theorem dX8_law_109 : decode cX8_law 109 = .ok (.i2l, 1) := by decide +kernel
theorem dX8_law_110 : decode cX8_law 110 = .ok (.invokevirtual 284, 3) := by decide +kernel
theorem dX8_law_113 : decode cX8_law 113 = .ok (.aload_n 0, 1) := by decide +kernel
theorem dX8_law_114 : decode cX8_law 114 = .ok (.iload_n 2, 1) := by decide +kernel
theorem dX8_law_115 : decode cX8_law 115 = .ok (.i2l, 1) := by decide +kernel
theorem dX8_law_116 : decode cX8_law 116 = .ok (.invokevirtual 284, 3) := by decide +kernel
theorem dX8_law_119 : decode cX8_law 119 = .ok (.iload 5, 2) := by decide +kernel
theorem dX8_law_121 : decode cX8_law 121 = .ok (.iload_n 2, 1) := by decide +kernel
theorem dX8_law_122 : decode cX8_law 122 = .ok (.isub, 1) := by decide +kernel
theorem dX8_law_123 : decode cX8_law 123 = .ok (.ireturn, 1) := by decide +kernel
theorem dX8_lay_0 : decode cX8_lay 0 = .ok (.iconst 0, 1) := by decide +kernel
theorem dX8_lay_1 : decode cX8_lay 1 = .ok (.istore_n 3, 1) := by decide +kernel
theorem dX8_lay_2 : decode cX8_lay 2 = .ok (.iload_n 3, 1) := by decide +kernel
theorem dX8_lay_3 : decode cX8_lay 3 = .ok (.bipush 27, 2) := by decide +kernel
theorem dX8_lay_5 : decode cX8_lay 5 = .ok (.if_icmp .ge 17, 3) := by decide +kernel
theorem dX8_lay_8 : decode cX8_lay 8 = .ok (.aload_n 1, 1) := by decide +kernel
theorem dX8_lay_9 : decode cX8_lay 9 = .ok (.iload_n 2, 1) := by decide +kernel
theorem dX8_lay_10 : decode cX8_lay 10 = .ok (.iload_n 3, 1) := by decide +kernel
theorem dX8_lay_11 : decode cX8_lay 11 = .ok (.iadd, 1) := by decide +kernel
theorem dX8_lay_12 : decode cX8_lay 12 = .ok (.aload_n 0, 1) := by decide +kernel
theorem dX8_lay_13 : decode cX8_lay 13 = .ok (.iload_n 3, 1) := by decide +kernel
theorem dX8_lay_14 : decode cX8_lay 14 = .ok (.iaload, 1) := by decide +kernel
theorem dX8_lay_15 : decode cX8_lay 15 = .ok (.iastore, 1) := by decide +kernel
theorem dX8_lay_16 : decode cX8_lay 16 = .ok (.iinc 3 1, 3) := by decide +kernel
theorem dX8_lay_19 : decode cX8_lay 19 = .ok (.goto (-17), 3) := by decide +kernel
theorem dX8_lay_22 : decode cX8_lay 22 = .ok (.return_, 1) := by decide +kernel
theorem dX8_layCanBe_0 : decode cX8_layCanBe 0 = .ok (.iconst 0, 1) := by decide +kernel
theorem dX8_layCanBe_1 : decode cX8_layCanBe 1 = .ok (.istore_n 1, 1) := by decide +kernel
theorem dX8_layCanBe_2 : decode cX8_layCanBe 2 = .ok (.iload_n 1, 1) := by decide +kernel
theorem dX8_layCanBe_3 : decode cX8_layCanBe 3 = .ok (.iconst 1, 1) := by decide +kernel
theorem dX8_layCanBe_4 : decode cX8_layCanBe 4 = .ok (.aload_n 0, 1) := by decide +kernel
theorem dX8_layCanBe_5 : decode cX8_layCanBe 5 = .ok (.getfield 120, 3) := by decide +kernel
theorem dX8_layCanBe_8 : decode cX8_layCanBe 8 = .ok (.ishl, 1) := by decide +kernel
theorem dX8_layCanBe_9 : decode cX8_layCanBe 9 = .ok (.if_icmp .ge 75, 3) := by decide +kernel
theorem dX8_layCanBe_12 : decode cX8_layCanBe 12 = .ok (.aload_n 0, 1) := by decide +kernel
theorem dX8_layCanBe_13 : decode cX8_layCanBe 13 = .ok (.iconst (-1), 1) := by decide +kernel
theorem dX8_layCanBe_14 : decode cX8_layCanBe 14 = .ok (.invokevirtual 335, 3) := by decide +kernel
theorem dX8_layCanBe_17 : decode cX8_layCanBe 17 = .ok (.iconst 0, 1) := by decide +kernel
theorem dX8_layCanBe_18 : decode cX8_layCanBe 18 = .ok (.istore_n 2, 1) := by decide +kernel
theorem dX8_layCanBe_19 : decode cX8_layCanBe 19 = .ok (.iload_n 2, 1) := by decide +kernel
theorem dX8_layCanBe_20 : decode cX8_layCanBe 20 = .ok (.aload_n 0, 1) := by decide +kernel
theorem dX8_layCanBe_21 : decode cX8_layCanBe 21 = .ok (.getfield 120, 3) := by decide +kernel
theorem dX8_layCanBe_24 : decode cX8_layCanBe 24 = .ok (.if_icmp .ge 33, 3) := by decide +kernel
theorem dX8_layCanBe_27 : decode cX8_layCanBe 27 = .ok (.aload_n 0, 1) := by decide +kernel
theorem dX8_layCanBe_28 : decode cX8_layCanBe 28 = .ok (.getfield 67, 3) := by decide +kernel
theorem dX8_layCanBe_31 : decode cX8_layCanBe 31 = .ok (.iload_n 2, 1) := by decide +kernel
theorem dX8_layCanBe_32 : decode cX8_layCanBe 32 = .ok (.iload_n 1, 1) := by decide +kernel
theorem dX8_layCanBe_33 : decode cX8_layCanBe 33 = .ok (.iload_n 2, 1) := by decide +kernel
theorem dX8_layCanBe_34 : decode cX8_layCanBe 34 = .ok (.invokestatic 271, 3) := by decide +kernel
theorem dX8_layCanBe_37 : decode cX8_layCanBe 37 = .ok (.ifCond .eq 12, 3) := by decide +kernel
theorem dX8_layCanBe_40 : decode cX8_layCanBe 40 = .ok (.aload_n 0, 1) := by decide +kernel
theorem dX8_layCanBe_41 : decode cX8_layCanBe 41 = .ok (.getfield 67, 3) := by decide +kernel
theorem dX8_layCanBe_44 : decode cX8_layCanBe 44 = .ok (.iload_n 2, 1) := by decide +kernel
theorem dX8_layCanBe_45 : decode cX8_layCanBe 45 = .ok (.iaload, 1) := by decide +kernel
theorem dX8_layCanBe_46 : decode cX8_layCanBe 46 = .ok (.goto 4, 3) := by decide +kernel
theorem dX8_layCanBe_49 : decode cX8_layCanBe 49 = .ok (.iconst 0, 1) := by decide +kernel
theorem dX8_layCanBe_50 : decode cX8_layCanBe 50 = .ok (.iastore, 1) := by decide +kernel
theorem dX8_layCanBe_51 : decode cX8_layCanBe 51 = .ok (.iinc 2 1, 3) := by decide +kernel
theorem dX8_layCanBe_54 : decode cX8_layCanBe 54 = .ok (.goto (-35), 3) := by decide +kernel
theorem dX8_layCanBe_57 : decode cX8_layCanBe 57 = .ok (.aload_n 0, 1) := by decide +kernel
theorem dX8_layCanBe_58 : decode cX8_layCanBe 58 = .ok (.getfield 95, 3) := by decide +kernel
theorem dX8_layCanBe_61 : decode cX8_layCanBe 61 = .ok (.iload_n 1, 1) := by decide +kernel
theorem dX8_layCanBe_62 : decode cX8_layCanBe 62 = .ok (.aload_n 0, 1) := by decide +kernel
theorem dX8_layCanBe_63 : decode cX8_layCanBe 63 = .ok (.iconst 2, 1) := by decide +kernel
theorem dX8_layCanBe_64 : decode cX8_layCanBe 64 = .ok (.invokevirtual 329, 3) := by decide +kernel
theorem dX8_layCanBe_67 : decode cX8_layCanBe 67 = .ok (.ldc 88, 2) := by decide +kernel
theorem dX8_layCanBe_69 : decode cX8_layCanBe 69 = .ok (.if_icmp .ge 7, 3) := by decide +kernel
theorem dX8_layCanBe_72 : decode cX8_layCanBe 72 = .ok (.iconst 1, 1) := by decide +kernel
theorem dX8_layCanBe_73 : decode cX8_layCanBe 73 = .ok (.goto 4, 3) := by decide +kernel
theorem dX8_layCanBe_76 : decode cX8_layCanBe 76 = .ok (.iconst 0, 1) := by decide +kernel
theorem dX8_layCanBe_77 : decode cX8_layCanBe 77 = .ok (.bastore, 1) := by decide +kernel
theorem dX8_layCanBe_78 : decode cX8_layCanBe 78 = .ok (.iinc 1 1, 3) := by decide +kernel
theorem dX8_layCanBe_81 : decode cX8_layCanBe 81 = .ok (.goto (-79), 3) := by decide +kernel
theorem dX8_layCanBe_84 : decode cX8_layCanBe 84 = .ok (.return_, 1) := by decide +kernel
theorem dX8_layFound_0 : decode cX8_layFound 0 = .ok (.aload_n 0, 1) := by decide +kernel
theorem dX8_layFound_1 : decode cX8_layFound 1 = .ok (.iconst (-1), 1) := by decide +kernel
theorem dX8_layFound_2 : decode cX8_layFound 2 = .ok (.invokevirtual 335, 3) := by decide +kernel
theorem dX8_layFound_5 : decode cX8_layFound 5 = .ok (.iconst 0, 1) := by decide +kernel
theorem dX8_layFound_6 : decode cX8_layFound 6 = .ok (.istore_n 1, 1) := by decide +kernel
theorem dX8_layFound_7 : decode cX8_layFound 7 = .ok (.iload_n 1, 1) := by decide +kernel
theorem dX8_layFound_8 : decode cX8_layFound 8 = .ok (.aload_n 0, 1) := by decide +kernel
theorem dX8_layFound_9 : decode cX8_layFound 9 = .ok (.getfield 362, 3) := by decide +kernel
theorem dX8_layFound_12 : decode cX8_layFound 12 = .ok (.if_icmp .ge 79, 3) := by decide +kernel
theorem dX8_layFound_15 : decode cX8_layFound 15 = .ok (.aload_n 0, 1) := by decide +kernel
theorem dX8_layFound_16 : decode cX8_layFound 16 = .ok (.getfield 99, 3) := by decide +kernel
theorem dX8_layFound_19 : decode cX8_layFound 19 = .ok (.iload_n 1, 1) := by decide +kernel
theorem dX8_layFound_20 : decode cX8_layFound 20 = .ok (.iaload, 1) := by decide +kernel
theorem dX8_layFound_21 : decode cX8_layFound 21 = .ok (.aload_n 0, 1) := by decide +kernel
theorem dX8_layFound_22 : decode cX8_layFound 22 = .ok (.getfield 13, 3) := by decide +kernel
theorem dX8_layFound_25 : decode cX8_layFound 25 = .ok (.if_icmp .lt 6, 3) := by decide +kernel
theorem dX8_layFound_28 : decode cX8_layFound 28 = .ok (.goto 57, 3) := by decide +kernel
theorem dX8_layFound_31 : decode cX8_layFound 31 = .ok (.aload_n 0, 1) := by decide +kernel
theorem dX8_layFound_32 : decode cX8_layFound 32 = .ok (.getfield 365, 3) := by decide +kernel
theorem dX8_layFound_35 : decode cX8_layFound 35 = .ok (.iload_n 1, 1) := by decide +kernel
theorem dX8_layFound_36 : decode cX8_layFound 36 = .ok (.invokestatic 271, 3) := by decide +kernel
theorem dX8_layFound_39 : decode cX8_layFound 39 = .ok (.ifCond .eq 22, 3) := by decide +kernel
theorem dX8_layFound_42 : decode cX8_layFound 42 = .ok (.aload_n 0, 1) := by decide +kernel
theorem dX8_layFound_43 : decode cX8_layFound 43 = .ok (.aload_n 0, 1) := by decide +kernel
theorem dX8_layFound_44 : decode cX8_layFound 44 = .ok (.getfield 99, 3) := by decide +kernel
theorem dX8_layFound_47 : decode cX8_layFound 47 = .ok (.iload_n 1, 1) := by decide +kernel
theorem dX8_layFound_48 : decode cX8_layFound 48 = .ok (.iaload, 1) := by decide +kernel
theorem dX8_layFound_49 : decode cX8_layFound 49 = .ok (.aload_n 0, 1) := by decide +kernel
theorem dX8_layFound_50 : decode cX8_layFound 50 = .ok (.getfield 102, 3) := by decide +kernel
theorem dX8_layFound_53 : decode cX8_layFound 53 = .ok (.iload_n 1, 1) := by decide +kernel
theorem dX8_layFound_54 : decode cX8_layFound 54 = .ok (.iaload, 1) := by decide +kernel
theorem dX8_layFound_55 : decode cX8_layFound 55 = .ok (.invokevirtual 323, 3) := by decide +kernel
theorem dX8_layFound_58 : decode cX8_layFound 58 = .ok (.goto 27, 3) := by decide +kernel
theorem dX8_layFound_61 : decode cX8_layFound 61 = .ok (.aload_n 0, 1) := by decide +kernel
theorem dX8_layFound_62 : decode cX8_layFound 62 = .ok (.getfield 67, 3) := by decide +kernel
theorem dX8_layFound_65 : decode cX8_layFound 65 = .ok (.aload_n 0, 1) := by decide +kernel
theorem dX8_layFound_66 : decode cX8_layFound 66 = .ok (.getfield 102, 3) := by decide +kernel
theorem dX8_layFound_69 : decode cX8_layFound 69 = .ok (.iload_n 1, 1) := by decide +kernel
theorem dX8_layFound_70 : decode cX8_layFound 70 = .ok (.iaload, 1) := by decide +kernel
theorem dX8_layFound_71 : decode cX8_layFound 71 = .ok (.dup2, 1) := by decide +kernel
theorem dX8_layFound_72 : decode cX8_layFound 72 = .ok (.iaload, 1) := by decide +kernel
theorem dX8_layFound_73 : decode cX8_layFound 73 = .ok (.iconst 1, 1) := by decide +kernel
theorem dX8_layFound_74 : decode cX8_layFound 74 = .ok (.aload_n 0, 1) := by decide +kernel
theorem dX8_layFound_75 : decode cX8_layFound 75 = .ok (.getfield 99, 3) := by decide +kernel
theorem dX8_layFound_78 : decode cX8_layFound 78 = .ok (.iload_n 1, 1) := by decide +kernel
theorem dX8_layFound_79 : decode cX8_layFound 79 = .ok (.iaload, 1) := by decide +kernel
theorem dX8_layFound_80 : decode cX8_layFound 80 = .ok (.ishl, 1) := by decide +kernel
theorem dX8_layFound_81 : decode cX8_layFound 81 = .ok (.iconst (-1), 1) := by decide +kernel
theorem dX8_layFound_82 : decode cX8_layFound 82 = .ok (.ixor, 1) := by decide +kernel
theorem dX8_layFound_83 : decode cX8_layFound 83 = .ok (.iand, 1) := by decide +kernel
theorem dX8_layFound_84 : decode cX8_layFound 84 = .ok (.iastore, 1) := by decide +kernel
theorem dX8_layFound_85 : decode cX8_layFound 85 = .ok (.iinc 1 1, 3) := by decide +kernel
theorem dX8_layFound_88 : decode cX8_layFound 88 = .ok (.goto (-81), 3) := by decide +kernel
theorem dX8_layFound_91 : decode cX8_layFound 91 = .ok (.return_, 1) := by decide +kernel
theorem dX8_layLine_0 : decode cX8_layLine 0 = .ok (.iconst 0, 1) := by decide +kernel
theorem dX8_layLine_1 : decode cX8_layLine 1 = .ok (.istore_n 3, 1) := by decide +kernel
theorem dX8_layLine_2 : decode cX8_layLine 2 = .ok (.iload_n 3, 1) := by decide +kernel
theorem dX8_layLine_3 : decode cX8_layLine 3 = .ok (.aload_n 0, 1) := by decide +kernel
theorem dX8_layLine_4 : decode cX8_layLine 4 = .ok (.getfield 13, 3) := by decide +kernel
theorem dX8_layLine_7 : decode cX8_layLine 7 = .ok (.if_icmp .ge 108, 3) := by decide +kernel
theorem dX8_layLine_10 : decode cX8_layLine 10 = .ok (.iconst 0, 1) := by decide +kernel
theorem dX8_layLine_11 : decode cX8_layLine 11 = .ok (.istore 4, 2) := by decide +kernel
theorem dX8_layLine_13 : decode cX8_layLine 13 = .ok (.iconst 0, 1) := by decide +kernel
theorem dX8_layLine_14 : decode cX8_layLine 14 = .ok (.istore 5, 2) := by decide +kernel
theorem dX8_layLine_16 : decode cX8_layLine 16 = .ok (.iload 5, 2) := by decide +kernel
theorem dX8_layLine_18 : decode cX8_layLine 18 = .ok (.aload_n 0, 1) := by decide +kernel
theorem dX8_layLine_19 : decode cX8_layLine 19 = .ok (.getfield 120, 3) := by decide +kernel
theorem dX8_layLine_22 : decode cX8_layLine 22 = .ok (.if_icmp .ge 87, 3) := by decide +kernel
theorem dX8_layLine_25 : decode cX8_layLine 25 = .ok (.iload 4, 2) := by decide +kernel
theorem dX8_layLine_27 : decode cX8_layLine 27 = .ok (.ifCond .ne 82, 3) := by decide +kernel
theorem dX8_layLine_30 : decode cX8_layLine 30 = .ok (.aload_n 0, 1) := by decide +kernel
theorem dX8_layLine_31 : decode cX8_layLine 31 = .ok (.getfield 67, 3) := by decide +kernel
theorem dX8_layLine_34 : decode cX8_layLine 34 = .ok (.iload 5, 2) := by decide +kernel
theorem dX8_layLine_36 : decode cX8_layLine 36 = .ok (.iaload, 1) := by decide +kernel
theorem dX8_layLine_37 : decode cX8_layLine 37 = .ok (.iload_n 3, 1) := by decide +kernel
theorem dX8_layLine_38 : decode cX8_layLine 38 = .ok (.invokestatic 271, 3) := by decide +kernel
theorem dX8_layLine_41 : decode cX8_layLine 41 = .ok (.ifCond .ne 6, 3) := by decide +kernel
theorem dX8_layLine_44 : decode cX8_layLine 44 = .ok (.goto 59, 3) := by decide +kernel
theorem dX8_layLine_47 : decode cX8_layLine 47 = .ok (.aload_n 0, 1) := by decide +kernel
theorem dX8_layLine_48 : decode cX8_layLine 48 = .ok (.invokevirtual 320, 3) := by decide +kernel
theorem dX8_layLine_51 : decode cX8_layLine 51 = .ok (.aload_n 0, 1) := by decide +kernel
theorem dX8_layLine_52 : decode cX8_layLine 52 = .ok (.iload_n 3, 1) := by decide +kernel
theorem dX8_layLine_53 : decode cX8_layLine 53 = .ok (.iload 5, 2) := by decide +kernel
theorem dX8_layLine_55 : decode cX8_layLine 55 = .ok (.invokevirtual 323, 3) := by decide +kernel
theorem dX8_layLine_58 : decode cX8_layLine 58 = .ok (.aload_n 0, 1) := by decide +kernel
theorem dX8_layLine_59 : decode cX8_layLine 59 = .ok (.iload 5, 2) := by decide +kernel
theorem dX8_layLine_61 : decode cX8_layLine 61 = .ok (.invokevirtual 326, 3) := by decide +kernel
theorem dX8_layLine_64 : decode cX8_layLine 64 = .ok (.ifCond .eq 16, 3) := by decide +kernel
theorem dX8_layLine_67 : decode cX8_layLine 67 = .ok (.aload_n 0, 1) := by decide +kernel
theorem dX8_layLine_68 : decode cX8_layLine 68 = .ok (.iload_n 1, 1) := by decide +kernel
theorem dX8_layLine_69 : decode cX8_layLine 69 = .ok (.invokevirtual 329, 3) := by decide +kernel
theorem dX8_layLine_72 : decode cX8_layLine 72 = .ok (.iload_n 2, 1) := by decide +kernel
theorem dX8_layLine_73 : decode cX8_layLine 73 = .ok (.if_icmp .ne 7, 3) := by decide +kernel
theorem dX8_layLine_76 : decode cX8_layLine 76 = .ok (.iconst 1, 1) := by decide +kernel
theorem dX8_layLine_77 : decode cX8_layLine 77 = .ok (.goto 4, 3) := by decide +kernel
theorem dX8_layLine_80 : decode cX8_layLine 80 = .ok (.iconst 0, 1) := by decide +kernel
theorem dX8_layLine_81 : decode cX8_layLine 81 = .ok (.istore 4, 2) := by decide +kernel
theorem dX8_layLine_83 : decode cX8_layLine 83 = .ok (.iload 4, 2) := by decide +kernel
theorem dX8_layLine_85 : decode cX8_layLine 85 = .ok (.ifCond .eq 14, 3) := by decide +kernel
theorem dX8_layLine_88 : decode cX8_layLine 88 = .ok (.aload_n 0, 1) := by decide +kernel
theorem dX8_layLine_89 : decode cX8_layLine 89 = .ok (.getfield 92, 3) := by decide +kernel
theorem dX8_layLine_92 : decode cX8_layLine 92 = .ok (.iload_n 3, 1) := by decide +kernel
theorem dX8_layLine_93 : decode cX8_layLine 93 = .ok (.iload 5, 2) := by decide +kernel
theorem dX8_layLine_95 : decode cX8_layLine 95 = .ok (.iastore, 1) := by decide +kernel
theorem dX8_layLine_96 : decode cX8_layLine 96 = .ok (.goto 7, 3) := by decide +kernel
theorem dX8_layLine_99 : decode cX8_layLine 99 = .ok (.aload_n 0, 1) := by decide +kernel
theorem dX8_layLine_100 : decode cX8_layLine 100 = .ok (.invokevirtual 332, 3) := by decide +kernel
theorem dX8_layLine_103 : decode cX8_layLine 103 = .ok (.iinc 5 1, 3) := by decide +kernel
theorem dX8_layLine_106 : decode cX8_layLine 106 = .ok (.goto (-90), 3) := by decide +kernel
theorem dX8_layLine_109 : decode cX8_layLine 109 = .ok (.iinc 3 1, 3) := by decide +kernel
theorem dX8_layLine_112 : decode cX8_layLine 112 = .ok (.goto (-110), 3) := by decide +kernel
theorem dX8_layLine_115 : decode cX8_layLine 115 = .ok (.return_, 1) := by decide +kernel
theorem dX8_layMay_0 : decode cX8_layMay 0 = .ok (.iconst 0, 1) := by decide +kernel
theorem dX8_layMay_1 : decode cX8_layMay 1 = .ok (.istore_n 2, 1) := by decide +kernel
theorem dX8_layMay_2 : decode cX8_layMay 2 = .ok (.iload_n 2, 1) := by decide +kernel
theorem dX8_layMay_3 : decode cX8_layMay 3 = .ok (.aload_n 0, 1) := by decide +kernel
theorem dX8_layMay_4 : decode cX8_layMay 4 = .ok (.getfield 120, 3) := by decide +kernel
theorem dX8_layMay_7 : decode cX8_layMay 7 = .ok (.if_icmp .ge 90, 3) := by decide +kernel
theorem dX8_layMay_10 : decode cX8_layMay 10 = .ok (.aload_n 0, 1) := by decide +kernel
theorem dX8_layMay_11 : decode cX8_layMay 11 = .ok (.getfield 67, 3) := by decide +kernel
theorem dX8_layMay_14 : decode cX8_layMay 14 = .ok (.iload_n 2, 1) := by decide +kernel
theorem dX8_layMay_15 : decode cX8_layMay 15 = .ok (.aload_n 0, 1) := by decide +kernel
theorem dX8_layMay_16 : decode cX8_layMay 16 = .ok (.getfield 9, 3) := by decide +kernel
theorem dX8_layMay_19 : decode cX8_layMay 19 = .ok (.bipush 16, 2) := by decide +kernel
theorem dX8_layMay_21 : decode cX8_layMay 21 = .ok (.iload_n 2, 1) := by decide +kernel
theorem dX8_layMay_22 : decode cX8_layMay 22 = .ok (.iadd, 1) := by decide +kernel
theorem dX8_layMay_23 : decode cX8_layMay 23 = .ok (.iaload, 1) := by decide +kernel
theorem dX8_layMay_24 : decode cX8_layMay 24 = .ok (.iconst 1, 1) := by decide +kernel
theorem dX8_layMay_25 : decode cX8_layMay 25 = .ok (.if_icmp .eq 8, 3) := by decide +kernel
theorem dX8_layMay_28 : decode cX8_layMay 28 = .ok (.iload_n 2, 1) := by decide +kernel
theorem dX8_layMay_29 : decode cX8_layMay 29 = .ok (.iload_n 1, 1) := by decide +kernel
theorem dX8_layMay_30 : decode cX8_layMay 30 = .ok (.if_icmp .ne 7, 3) := by decide +kernel
theorem dX8_layMay_33 : decode cX8_layMay 33 = .ok (.iconst 0, 1) := by decide +kernel
theorem dX8_layMay_34 : decode cX8_layMay 34 = .ok (.goto 14, 3) := by decide +kernel
theorem dX8_layMay_37 : decode cX8_layMay 37 = .ok (.aload_n 0, 1) := by decide +kernel
theorem dX8_layMay_38 : decode cX8_layMay 38 = .ok (.getfield 26, 3) := by decide +kernel
theorem dX8_layMay_41 : decode cX8_layMay 41 = .ok (.iload_n 2, 1) := by decide +kernel
theorem dX8_layMay_42 : decode cX8_layMay 42 = .ok (.iaload, 1) := by decide +kernel
theorem dX8_layMay_43 : decode cX8_layMay 43 = .ok (.aload_n 0, 1) := by decide +kernel
theorem dX8_layMay_44 : decode cX8_layMay 44 = .ok (.invokevirtual 307, 3) := by decide +kernel
theorem dX8_layMay_47 : decode cX8_layMay 47 = .ok (.iand, 1) := by decide +kernel
theorem dX8_layMay_48 : decode cX8_layMay 48 = .ok (.iastore, 1) := by decide +kernel
theorem dX8_layMay_49 : decode cX8_layMay 49 = .ok (.aload_n 0, 1) := by decide +kernel
theorem dX8_layMay_50 : decode cX8_layMay 50 = .ok (.getfield 70, 3) := by decide +kernel
theorem dX8_layMay_53 : decode cX8_layMay 53 = .ok (.iload_n 2, 1) := by decide +kernel
theorem dX8_layMay_54 : decode cX8_layMay 54 = .ok (.iconst 0, 1) := by decide +kernel
theorem dX8_layMay_55 : decode cX8_layMay 55 = .ok (.iastore, 1) := by decide +kernel
theorem dX8_layMay_56 : decode cX8_layMay 56 = .ok (.iconst 0, 1) := by decide +kernel
theorem dX8_layMay_57 : decode cX8_layMay 57 = .ok (.istore_n 3, 1) := by decide +kernel
theorem dX8_layMay_58 : decode cX8_layMay 58 = .ok (.iload_n 3, 1) := by decide +kernel
theorem dX8_layMay_59 : decode cX8_layMay 59 = .ok (.bipush 8, 2) := by decide +kernel
theorem dX8_layMay_61 : decode cX8_layMay 61 = .ok (.if_icmp .ge 30, 3) := by decide +kernel
theorem dX8_layMay_64 : decode cX8_layMay 64 = .ok (.aload_n 0, 1) := by decide +kernel
theorem dX8_layMay_65 : decode cX8_layMay 65 = .ok (.getfield 79, 3) := by decide +kernel
theorem dX8_layMay_68 : decode cX8_layMay 68 = .ok (.bipush 8, 2) := by decide +kernel
theorem dX8_layMay_70 : decode cX8_layMay 70 = .ok (.iload_n 2, 1) := by decide +kernel
theorem dX8_layMay_71 : decode cX8_layMay 71 = .ok (.imul, 1) := by decide +kernel
theorem dX8_layMay_72 : decode cX8_layMay 72 = .ok (.iload_n 3, 1) := by decide +kernel
theorem dX8_layMay_73 : decode cX8_layMay 73 = .ok (.iadd, 1) := by decide +kernel
theorem dX8_layMay_74 : decode cX8_layMay 74 = .ok (.aload_n 0, 1) := by decide +kernel
theorem dX8_layMay_75 : decode cX8_layMay 75 = .ok (.aload_n 0, 1) := by decide +kernel
theorem dX8_layMay_76 : decode cX8_layMay 76 = .ok (.getfield 9, 3) := by decide +kernel
theorem dX8_layMay_79 : decode cX8_layMay 79 = .ok (.iload_n 2, 1) := by decide +kernel
theorem dX8_layMay_80 : decode cX8_layMay 80 = .ok (.iload_n 3, 1) := by decide +kernel
theorem dX8_layMay_81 : decode cX8_layMay 81 = .ok (.invokevirtual 245, 3) := by decide +kernel
theorem dX8_layMay_84 : decode cX8_layMay 84 = .ok (.iastore, 1) := by decide +kernel
theorem dX8_layMay_85 : decode cX8_layMay 85 = .ok (.iinc 3 1, 3) := by decide +kernel
theorem dX8_layMay_88 : decode cX8_layMay 88 = .ok (.goto (-30), 3) := by decide +kernel
theorem dX8_layMay_91 : decode cX8_layMay 91 = .ok (.iinc 2 1, 3) := by decide +kernel
theorem dX8_layMay_94 : decode cX8_layMay 94 = .ok (.goto (-92), 3) := by decide +kernel
theorem dX8_layMay_97 : decode cX8_layMay 97 = .ok (.return_, 1) := by decide +kernel
theorem dX8_letterOf_0 : decode cX8_letterOf 0 = .ok (.iload_n 0, 1) := by decide +kernel
theorem dX8_letterOf_1 : decode cX8_letterOf 1 = .ok (.bipush 104, 2) := by decide +kernel
theorem dX8_letterOf_3 : decode cX8_letterOf 3 = .ok (.if_icmp .ne 7, 3) := by decide +kernel
theorem dX8_letterOf_6 : decode cX8_letterOf 6 = .ok (.iconst 0, 1) := by decide +kernel
theorem dX8_letterOf_7 : decode cX8_letterOf 7 = .ok (.goto 65, 3) := by decide +kernel
theorem dX8_letterOf_10 : decode cX8_letterOf 10 = .ok (.iload_n 0, 1) := by decide +kernel
theorem dX8_letterOf_11 : decode cX8_letterOf 11 = .ok (.bipush 116, 2) := by decide +kernel
theorem dX8_letterOf_13 : decode cX8_letterOf 13 = .ok (.if_icmp .ne 7, 3) := by decide +kernel
theorem dX8_letterOf_16 : decode cX8_letterOf 16 = .ok (.iconst 1, 1) := by decide +kernel
theorem dX8_letterOf_17 : decode cX8_letterOf 17 = .ok (.goto 55, 3) := by decide +kernel
theorem dX8_letterOf_20 : decode cX8_letterOf 20 = .ok (.iload_n 0, 1) := by decide +kernel
theorem dX8_letterOf_21 : decode cX8_letterOf 21 = .ok (.bipush 119, 2) := by decide +kernel
theorem dX8_letterOf_23 : decode cX8_letterOf 23 = .ok (.if_icmp .ne 7, 3) := by decide +kernel
theorem dX8_letterOf_26 : decode cX8_letterOf 26 = .ok (.iconst 2, 1) := by decide +kernel
theorem dX8_letterOf_27 : decode cX8_letterOf 27 = .ok (.goto 45, 3) := by decide +kernel
theorem dX8_letterOf_30 : decode cX8_letterOf 30 = .ok (.iload_n 0, 1) := by decide +kernel
theorem dX8_letterOf_31 : decode cX8_letterOf 31 = .ok (.bipush 109, 2) := by decide +kernel
theorem dX8_letterOf_33 : decode cX8_letterOf 33 = .ok (.if_icmp .ne 7, 3) := by decide +kernel
theorem dX8_letterOf_36 : decode cX8_letterOf 36 = .ok (.iconst 3, 1) := by decide +kernel
theorem dX8_letterOf_37 : decode cX8_letterOf 37 = .ok (.goto 35, 3) := by decide +kernel
theorem dX8_letterOf_40 : decode cX8_letterOf 40 = .ok (.iload_n 0, 1) := by decide +kernel
theorem dX8_letterOf_41 : decode cX8_letterOf 41 = .ok (.bipush 105, 2) := by decide +kernel
theorem dX8_letterOf_43 : decode cX8_letterOf 43 = .ok (.if_icmp .ne 7, 3) := by decide +kernel
theorem dX8_letterOf_46 : decode cX8_letterOf 46 = .ok (.iconst 4, 1) := by decide +kernel
theorem dX8_letterOf_47 : decode cX8_letterOf 47 = .ok (.goto 25, 3) := by decide +kernel
theorem dX8_letterOf_50 : decode cX8_letterOf 50 = .ok (.iload_n 0, 1) := by decide +kernel
theorem dX8_letterOf_51 : decode cX8_letterOf 51 = .ok (.bipush 110, 2) := by decide +kernel
theorem dX8_letterOf_53 : decode cX8_letterOf 53 = .ok (.if_icmp .ne 7, 3) := by decide +kernel
theorem dX8_letterOf_56 : decode cX8_letterOf 56 = .ok (.iconst 5, 1) := by decide +kernel
theorem dX8_letterOf_57 : decode cX8_letterOf 57 = .ok (.goto 15, 3) := by decide +kernel
theorem dX8_letterOf_60 : decode cX8_letterOf 60 = .ok (.iload_n 0, 1) := by decide +kernel
theorem dX8_letterOf_61 : decode cX8_letterOf 61 = .ok (.bipush 99, 2) := by decide +kernel
theorem dX8_letterOf_63 : decode cX8_letterOf 63 = .ok (.if_icmp .ne 8, 3) := by decide +kernel
theorem dX8_letterOf_66 : decode cX8_letterOf 66 = .ok (.bipush 6, 2) := by decide +kernel
theorem dX8_letterOf_68 : decode cX8_letterOf 68 = .ok (.goto 4, 3) := by decide +kernel
theorem dX8_letterOf_71 : decode cX8_letterOf 71 = .ok (.iconst (-1), 1) := by decide +kernel
theorem dX8_letterOf_72 : decode cX8_letterOf 72 = .ok (.ireturn, 1) := by decide +kernel
theorem dX8_lost_0 : decode cX8_lost 0 = .ok (.aload_n 0, 1) := by decide +kernel
theorem dX8_lost_1 : decode cX8_lost 1 = .ok (.iconst 1, 1) := by decide +kernel
theorem dX8_lost_2 : decode cX8_lost 2 = .ok (.putfield 114, 3) := by decide +kernel
theorem dX8_lost_5 : decode cX8_lost 5 = .ok (.iconst 0, 1) := by decide +kernel
theorem dX8_lost_6 : decode cX8_lost 6 = .ok (.ireturn, 1) := by decide +kernel
theorem dX8_meets_0 : decode cX8_meets 0 = .ok (.aload_n 0, 1) := by decide +kernel
theorem dX8_meets_1 : decode cX8_meets 1 = .ok (.iconst 0, 1) := by decide +kernel
theorem dX8_meets_2 : decode cX8_meets 2 = .ok (.putfield 114, 3) := by decide +kernel
theorem dX8_meets_5 : decode cX8_meets 5 = .ok (.aload_n 0, 1) := by decide +kernel
theorem dX8_meets_6 : decode cX8_meets 6 = .ok (.iload_n 1, 1) := by decide +kernel
theorem dX8_meets_7 : decode cX8_meets 7 = .ok (.iload_n 2, 1) := by decide +kernel
theorem dX8_meets_8 : decode cX8_meets 8 = .ok (.invokevirtual 297, 3) := by decide +kernel
theorem dX8_meets_11 : decode cX8_meets 11 = .ok (.ifCond .eq 13, 3) := by decide +kernel
theorem dX8_meets_14 : decode cX8_meets 14 = .ok (.iload_n 3, 1) := by decide +kernel
theorem dX8_meets_15 : decode cX8_meets 15 = .ok (.iconst 2, 1) := by decide +kernel
theorem dX8_meets_16 : decode cX8_meets 16 = .ok (.bipush 40, 2) := by decide +kernel
theorem dX8_meets_18 : decode cX8_meets 18 = .ok (.invokestatic 123, 3) := by decide +kernel
theorem dX8_meets_21 : decode cX8_meets 21 = .ok (.ifCond .ne 5, 3) := by decide +kernel
theorem dX8_meets_24 : decode cX8_meets 24 = .ok (.iconst (-1), 1) := by decide +kernel
theorem dX8_meets_25 : decode cX8_meets 25 = .ok (.ireturn, 1) := by decide +kernel
theorem dX8_meets_26 : decode cX8_meets 26 = .ok (.bipush (-2), 2) := by decide +kernel
theorem dX8_meets_28 : decode cX8_meets 28 = .ok (.istore 4, 2) := by decide +kernel
theorem dX8_meets_30 : decode cX8_meets 30 = .ok (.iconst 0, 1) := by decide +kernel
theorem dX8_meets_31 : decode cX8_meets 31 = .ok (.istore 5, 2) := by decide +kernel
theorem dX8_meets_33 : decode cX8_meets 33 = .ok (.iconst 1, 1) := by decide +kernel
theorem dX8_meets_34 : decode cX8_meets 34 = .ok (.istore 6, 2) := by decide +kernel
theorem dX8_meets_36 : decode cX8_meets 36 = .ok (.iload 6, 2) := by decide +kernel
theorem dX8_meets_38 : decode cX8_meets 38 = .ok (.sipush 999, 3) := by decide +kernel
theorem dX8_meets_41 : decode cX8_meets 41 = .ok (.if_icmp .gt 58, 3) := by decide +kernel
theorem dX8_meets_44 : decode cX8_meets 44 = .ok (.aload_n 0, 1) := by decide +kernel
theorem dX8_meets_45 : decode cX8_meets 45 = .ok (.getfield 23, 3) := by decide +kernel
theorem dX8_meets_48 : decode cX8_meets 48 = .ok (.iload_n 1, 1) := by decide +kernel
theorem dX8_meets_49 : decode cX8_meets 49 = .ok (.iaload, 1) := by decide +kernel
theorem dX8_meets_50 : decode cX8_meets 50 = .ok (.iload 6, 2) := by decide +kernel
theorem dX8_meets_52 : decode cX8_meets 52 = .ok (.imul, 1) := by decide +kernel
theorem dX8_meets_53 : decode cX8_meets 53 = .ok (.iload_n 1, 1) := by decide +kernel
theorem dX8_meets_54 : decode cX8_meets 54 = .ok (.iadd, 1) := by decide +kernel
theorem dX8_meets_55 : decode cX8_meets 55 = .ok (.iload_n 3, 1) := by decide +kernel
theorem dX8_meets_56 : decode cX8_meets 56 = .ok (.irem, 1) := by decide +kernel
theorem dX8_meets_57 : decode cX8_meets 57 = .ok (.aload_n 0, 1) := by decide +kernel
theorem dX8_meets_58 : decode cX8_meets 58 = .ok (.getfield 23, 3) := by decide +kernel
theorem dX8_meets_61 : decode cX8_meets 61 = .ok (.iload_n 2, 1) := by decide +kernel
theorem dX8_meets_62 : decode cX8_meets 62 = .ok (.iaload, 1) := by decide +kernel
theorem dX8_meets_63 : decode cX8_meets 63 = .ok (.iload 6, 2) := by decide +kernel
theorem dX8_meets_65 : decode cX8_meets 65 = .ok (.imul, 1) := by decide +kernel
theorem dX8_meets_66 : decode cX8_meets 66 = .ok (.iload_n 2, 1) := by decide +kernel
theorem dX8_meets_67 : decode cX8_meets 67 = .ok (.iadd, 1) := by decide +kernel
theorem dX8_meets_68 : decode cX8_meets 68 = .ok (.iload_n 3, 1) := by decide +kernel
theorem dX8_meets_69 : decode cX8_meets 69 = .ok (.irem, 1) := by decide +kernel
theorem dX8_meets_70 : decode cX8_meets 70 = .ok (.if_icmp .eq 6, 3) := by decide +kernel
theorem dX8_meets_73 : decode cX8_meets 73 = .ok (.goto 20, 3) := by decide +kernel
theorem dX8_meets_76 : decode cX8_meets 76 = .ok (.iload 5, 2) := by decide +kernel
theorem dX8_meets_78 : decode cX8_meets 78 = .ok (.ifCond .ne 8, 3) := by decide +kernel
theorem dX8_meets_81 : decode cX8_meets 81 = .ok (.iload 6, 2) := by decide +kernel
theorem dX8_meets_83 : decode cX8_meets 83 = .ok (.goto 5, 3) := by decide +kernel
theorem dX8_meets_86 : decode cX8_meets 86 = .ok (.iload 4, 2) := by decide +kernel
theorem dX8_meets_88 : decode cX8_meets 88 = .ok (.istore 4, 2) := by decide +kernel
theorem dX8_meets_90 : decode cX8_meets 90 = .ok (.iinc 5 1, 3) := by decide +kernel
theorem dX8_meets_93 : decode cX8_meets 93 = .ok (.iinc 6 1, 3) := by decide +kernel
theorem dX8_meets_96 : decode cX8_meets 96 = .ok (.goto (-60), 3) := by decide +kernel
theorem dX8_meets_99 : decode cX8_meets 99 = .ok (.iload 5, 2) := by decide +kernel
theorem dX8_meets_101 : decode cX8_meets 101 = .ok (.ifCond .ne 6, 3) := by decide +kernel
theorem dX8_meets_104 : decode cX8_meets 104 = .ok (.bipush (-2), 2) := by decide +kernel
theorem dX8_meets_106 : decode cX8_meets 106 = .ok (.ireturn, 1) := by decide +kernel
theorem dX8_meets_107 : decode cX8_meets 107 = .ok (.aload_n 0, 1) := by decide +kernel
theorem dX8_meets_108 : decode cX8_meets 108 = .ok (.iconst 0, 1) := by decide +kernel
theorem dX8_meets_109 : decode cX8_meets 109 = .ok (.putfield 117, 3) := by decide +kernel
theorem dX8_meets_112 : decode cX8_meets 112 = .ok (.aload_n 0, 1) := by decide +kernel
theorem dX8_meets_113 : decode cX8_meets 113 = .ok (.aload_n 0, 1) := by decide +kernel
theorem dX8_meets_114 : decode cX8_meets 114 = .ok (.getfield 23, 3) := by decide +kernel
theorem dX8_meets_117 : decode cX8_meets 117 = .ok (.iload_n 1, 1) := by decide +kernel
theorem dX8_meets_118 : decode cX8_meets 118 = .ok (.iaload, 1) := by decide +kernel
theorem dX8_meets_119 : decode cX8_meets 119 = .ok (.iload 4, 2) := by decide +kernel
theorem dX8_meets_121 : decode cX8_meets 121 = .ok (.imul, 1) := by decide +kernel
theorem dX8_meets_122 : decode cX8_meets 122 = .ok (.iload_n 1, 1) := by decide +kernel
theorem dX8_meets_123 : decode cX8_meets 123 = .ok (.iadd, 1) := by decide +kernel
theorem dX8_meets_124 : decode cX8_meets 124 = .ok (.iload_n 3, 1) := by decide +kernel
theorem dX8_meets_125 : decode cX8_meets 125 = .ok (.irem, 1) := by decide +kernel
theorem dX8_meets_126 : decode cX8_meets 126 = .ok (.i2l, 1) := by decide +kernel
theorem dX8_meets_127 : decode cX8_meets 127 = .ok (.invokevirtual 284, 3) := by decide +kernel
theorem dX8_meets_130 : decode cX8_meets 130 = .ok (.aload_n 0, 1) := by decide +kernel
theorem dX8_meets_131 : decode cX8_meets 131 = .ok (.iload 5, 2) := by decide +kernel
theorem dX8_meets_133 : decode cX8_meets 133 = .ok (.i2l, 1) := by decide +kernel
theorem dX8_meets_134 : decode cX8_meets 134 = .ok (.invokevirtual 284, 3) := by decide +kernel
theorem dX8_meets_137 : decode cX8_meets 137 = .ok (.iload 4, 2) := by decide +kernel
theorem dX8_meets_139 : decode cX8_meets 139 = .ok (.ireturn, 1) := by decide +kernel
theorem dX8_mended_0 : decode cX8_mended 0 = .ok (.aload_n 0, 1) := by decide +kernel
theorem dX8_mended_1 : decode cX8_mended 1 = .ok (.iconst 0, 1) := by decide +kernel
theorem dX8_mended_2 : decode cX8_mended 2 = .ok (.putfield 114, 3) := by decide +kernel
theorem dX8_mended_5 : decode cX8_mended 5 = .ok (.aload_n 0, 1) := by decide +kernel
theorem dX8_mended_6 : decode cX8_mended 6 = .ok (.iload_n 1, 1) := by decide +kernel
theorem dX8_mended_7 : decode cX8_mended 7 = .ok (.invokevirtual 127, 3) := by decide +kernel
theorem dX8_mended_10 : decode cX8_mended 10 = .ok (.ifCond .ne 5, 3) := by decide +kernel
theorem dX8_mended_13 : decode cX8_mended 13 = .ok (.iconst (-1), 1) := by decide +kernel
theorem dX8_mended_14 : decode cX8_mended 14 = .ok (.ireturn, 1) := by decide +kernel
theorem dX8_mended_15 : decode cX8_mended 15 = .ok (.aload_n 0, 1) := by decide +kernel
theorem dX8_mended_16 : decode cX8_mended 16 = .ok (.iload_n 1, 1) := by decide +kernel
theorem dX8_mended_17 : decode cX8_mended 17 = .ok (.invokevirtual 335, 3) := by decide +kernel
theorem dX8_mended_20 : decode cX8_mended 20 = .ok (.aload_n 0, 1) := by decide +kernel
theorem dX8_mended_21 : decode cX8_mended 21 = .ok (.iconst 1, 1) := by decide +kernel
theorem dX8_mended_22 : decode cX8_mended 22 = .ok (.invokevirtual 329, 3) := by decide +kernel
theorem dX8_mended_25 : decode cX8_mended 25 = .ok (.istore_n 2, 1) := by decide +kernel
theorem dX8_mended_26 : decode cX8_mended 26 = .ok (.iload_n 2, 1) := by decide +kernel
theorem dX8_mended_27 : decode cX8_mended 27 = .ok (.ldc 88, 2) := by decide +kernel
theorem dX8_mended_29 : decode cX8_mended 29 = .ok (.if_icmp .ne 6, 3) := by decide +kernel
theorem dX8_mended_32 : decode cX8_mended 32 = .ok (.bipush (-2), 2) := by decide +kernel
theorem dX8_mended_34 : decode cX8_mended 34 = .ok (.ireturn, 1) := by decide +kernel
theorem dX8_mended_35 : decode cX8_mended 35 = .ok (.aload_n 0, 1) := by decide +kernel
theorem dX8_mended_36 : decode cX8_mended 36 = .ok (.iconst 1, 1) := by decide +kernel
theorem dX8_mended_37 : decode cX8_mended 37 = .ok (.iload_n 2, 1) := by decide +kernel
theorem dX8_mended_38 : decode cX8_mended 38 = .ok (.invokevirtual 341, 3) := by decide +kernel
theorem dX8_mended_41 : decode cX8_mended 41 = .ok (.aload_n 0, 1) := by decide +kernel
theorem dX8_mended_42 : decode cX8_mended 42 = .ok (.invokevirtual 344, 3) := by decide +kernel
theorem dX8_mended_45 : decode cX8_mended 45 = .ok (.iload_n 2, 1) := by decide +kernel
theorem dX8_mended_46 : decode cX8_mended 46 = .ok (.ireturn, 1) := by decide +kernel
theorem dX8_missed_0 : decode cX8_missed 0 = .ok (.aload_n 0, 1) := by decide +kernel
theorem dX8_missed_1 : decode cX8_missed 1 = .ok (.iconst 0, 1) := by decide +kernel
theorem dX8_missed_2 : decode cX8_missed 2 = .ok (.putfield 114, 3) := by decide +kernel
theorem dX8_missed_5 : decode cX8_missed 5 = .ok (.aload_n 0, 1) := by decide +kernel
theorem dX8_missed_6 : decode cX8_missed 6 = .ok (.iload_n 1, 1) := by decide +kernel
theorem dX8_missed_7 : decode cX8_missed 7 = .ok (.invokevirtual 127, 3) := by decide +kernel
theorem dX8_missed_10 : decode cX8_missed 10 = .ok (.ifCond .ne 5, 3) := by decide +kernel
theorem dX8_missed_13 : decode cX8_missed 13 = .ok (.iconst (-1), 1) := by decide +kernel
theorem dX8_missed_14 : decode cX8_missed 14 = .ok (.ireturn, 1) := by decide +kernel
theorem dX8_missed_15 : decode cX8_missed 15 = .ok (.aload_n 0, 1) := by decide +kernel
theorem dX8_missed_16 : decode cX8_missed 16 = .ok (.iconst (-1), 1) := by decide +kernel
theorem dX8_missed_17 : decode cX8_missed 17 = .ok (.invokevirtual 338, 3) := by decide +kernel
theorem dX8_missed_20 : decode cX8_missed 20 = .ok (.istore_n 2, 1) := by decide +kernel
theorem dX8_missed_21 : decode cX8_missed 21 = .ok (.aload_n 0, 1) := by decide +kernel
theorem dX8_missed_22 : decode cX8_missed 22 = .ok (.iload_n 1, 1) := by decide +kernel
theorem dX8_missed_23 : decode cX8_missed 23 = .ok (.invokevirtual 338, 3) := by decide +kernel
theorem dX8_missed_26 : decode cX8_missed 26 = .ok (.istore_n 3, 1) := by decide +kernel
theorem dX8_missed_27 : decode cX8_missed 27 = .ok (.iload_n 2, 1) := by decide +kernel
theorem dX8_missed_28 : decode cX8_missed 28 = .ok (.ldc 88, 2) := by decide +kernel
theorem dX8_missed_30 : decode cX8_missed 30 = .ok (.if_icmp .eq 9, 3) := by decide +kernel
theorem dX8_missed_33 : decode cX8_missed 33 = .ok (.iload_n 3, 1) := by decide +kernel
theorem dX8_missed_34 : decode cX8_missed 34 = .ok (.ldc 88, 2) := by decide +kernel
theorem dX8_missed_36 : decode cX8_missed 36 = .ok (.if_icmp .ne 8, 3) := by decide +kernel
theorem dX8_missed_39 : decode cX8_missed 39 = .ok (.bipush (-2), 2) := by decide +kernel
theorem dX8_missed_41 : decode cX8_missed 41 = .ok (.goto 6, 3) := by decide +kernel
theorem dX8_missed_44 : decode cX8_missed 44 = .ok (.iload_n 3, 1) := by decide +kernel
theorem dX8_missed_45 : decode cX8_missed 45 = .ok (.iload_n 2, 1) := by decide +kernel
theorem dX8_missed_46 : decode cX8_missed 46 = .ok (.isub, 1) := by decide +kernel
theorem dX8_missed_47 : decode cX8_missed 47 = .ok (.ireturn, 1) := by decide +kernel
theorem dX8_need_0 : decode cX8_need 0 = .ok (.aload_n 0, 1) := by decide +kernel
theorem dX8_need_1 : decode cX8_need 1 = .ok (.iload_n 1, 1) := by decide +kernel
theorem dX8_need_2 : decode cX8_need 2 = .ok (.invokevirtual 161, 3) := by decide +kernel
theorem dX8_need_5 : decode cX8_need 5 = .ok (.ifCond .ne 11, 3) := by decide +kernel
theorem dX8_need_8 : decode cX8_need 8 = .ok (.aload_n 0, 1) := by decide +kernel
theorem dX8_need_9 : decode cX8_need 9 = .ok (.aload_n 0, 1) := by decide +kernel
theorem dX8_need_10 : decode cX8_need 10 = .ok (.getfield 143, 3) := by decide +kernel
theorem dX8_need_13 : decode cX8_need 13 = .ok (.invokevirtual 165, 3) := by decide +kernel
theorem dX8_need_16 : decode cX8_need 16 = .ok (.return_, 1) := by decide +kernel
theorem dX8_night_0 : decode cX8_night 0 = .ok (.iconst 1, 1) := by decide +kernel
theorem dX8_night_1 : decode cX8_night 1 = .ok (.aload_n 0, 1) := by decide +kernel
theorem dX8_night_2 : decode cX8_night 2 = .ok (.getfield 13, 3) := by decide +kernel
theorem dX8_night_5 : decode cX8_night 5 = .ok (.ishl, 1) := by decide +kernel
theorem dX8_night_6 : decode cX8_night 6 = .ok (.iconst 1, 1) := by decide +kernel
theorem dX8_night_7 : decode cX8_night 7 = .ok (.isub, 1) := by decide +kernel
theorem dX8_night_8 : decode cX8_night 8 = .ok (.ireturn, 1) := by decide +kernel
theorem dX8_nights_0 : decode cX8_nights 0 = .ok (.aload_n 0, 1) := by decide +kernel
theorem dX8_nights_1 : decode cX8_nights 1 = .ok (.iconst 0, 1) := by decide +kernel
theorem dX8_nights_2 : decode cX8_nights 2 = .ok (.putfield 114, 3) := by decide +kernel
theorem dX8_nights_5 : decode cX8_nights 5 = .ok (.iload_n 1, 1) := by decide +kernel
theorem dX8_nights_6 : decode cX8_nights 6 = .ok (.iconst 0, 1) := by decide +kernel
theorem dX8_nights_7 : decode cX8_nights 7 = .ok (.bipush 30, 2) := by decide +kernel
theorem dX8_nights_9 : decode cX8_nights 9 = .ok (.invokestatic 123, 3) := by decide +kernel
theorem dX8_nights_12 : decode cX8_nights 12 = .ok (.ifCond .ne 5, 3) := by decide +kernel
theorem dX8_nights_15 : decode cX8_nights 15 = .ok (.iconst (-1), 1) := by decide +kernel
theorem dX8_nights_16 : decode cX8_nights 16 = .ok (.ireturn, 1) := by decide +kernel
theorem dX8_nights_17 : decode cX8_nights 17 = .ok (.iload_n 1, 1) := by decide +kernel
theorem dX8_nights_18 : decode cX8_nights 18 = .ok (.ifCond .le 11, 3) := by decide +kernel
theorem dX8_nights_21 : decode cX8_nights 21 = .ok (.aload_n 0, 1) := by decide +kernel
theorem dX8_nights_22 : decode cX8_nights 22 = .ok (.aload_n 0, 1) := by decide +kernel
theorem dX8_nights_23 : decode cX8_nights 23 = .ok (.getfield 9, 3) := by decide +kernel
theorem dX8_nights_26 : decode cX8_nights 26 = .ok (.invokevirtual 253, 3) := by decide +kernel
theorem dX8_nights_29 : decode cX8_nights 29 = .ok (.aload_n 0, 1) := by decide +kernel
theorem dX8_nights_30 : decode cX8_nights 30 = .ok (.getfield 9, 3) := by decide +kernel
theorem dX8_nights_33 : decode cX8_nights 33 = .ok (.bipush 25, 2) := by decide +kernel
theorem dX8_nights_35 : decode cX8_nights 35 = .ok (.iaload, 1) := by decide +kernel
theorem dX8_nights_36 : decode cX8_nights 36 = .ok (.istore_n 2, 1) := by decide +kernel
theorem dX8_nights_37 : decode cX8_nights 37 = .ok (.aload_n 0, 1) := by decide +kernel
theorem dX8_nights_38 : decode cX8_nights 38 = .ok (.getfield 9, 3) := by decide +kernel
theorem dX8_nights_41 : decode cX8_nights 41 = .ok (.bipush 26, 2) := by decide +kernel
theorem dX8_nights_43 : decode cX8_nights 43 = .ok (.iaload, 1) := by decide +kernel
theorem dX8_nights_44 : decode cX8_nights 44 = .ok (.istore_n 3, 1) := by decide +kernel
theorem dX8_nights_45 : decode cX8_nights 45 = .ok (.aload_n 0, 1) := by decide +kernel
theorem dX8_nights_46 : decode cX8_nights 46 = .ok (.aload_n 0, 1) := by decide +kernel
theorem dX8_nights_47 : decode cX8_nights 47 = .ok (.getfield 9, 3) := by decide +kernel
theorem dX8_nights_50 : decode cX8_nights 50 = .ok (.iload_n 1, 1) := by decide +kernel
theorem dX8_nights_51 : decode cX8_nights 51 = .ok (.invokevirtual 280, 3) := by decide +kernel
theorem dX8_nights_54 : decode cX8_nights 54 = .ok (.aload_n 0, 1) := by decide +kernel
theorem dX8_nights_55 : decode cX8_nights 55 = .ok (.iconst 0, 1) := by decide +kernel
theorem dX8_nights_56 : decode cX8_nights 56 = .ok (.putfield 117, 3) := by decide +kernel
theorem dX8_nights_59 : decode cX8_nights 59 = .ok (.aload_n 0, 1) := by decide +kernel
theorem dX8_nights_60 : decode cX8_nights 60 = .ok (.aload_n 0, 1) := by decide +kernel
theorem dX8_nights_61 : decode cX8_nights 61 = .ok (.getfield 9, 3) := by decide +kernel
theorem dX8_nights_64 : decode cX8_nights 64 = .ok (.bipush 26, 2) := by decide +kernel
theorem dX8_nights_66 : decode cX8_nights 66 = .ok (.iaload, 1) := by decide +kernel
theorem dX8_nights_67 : decode cX8_nights 67 = .ok (.iload_n 3, 1) := by decide +kernel
theorem dX8_nights_68 : decode cX8_nights 68 = .ok (.isub, 1) := by decide +kernel
theorem dX8_nights_69 : decode cX8_nights 69 = .ok (.i2l, 1) := by decide +kernel
theorem dX8_nights_70 : decode cX8_nights 70 = .ok (.invokevirtual 284, 3) := by decide +kernel
theorem dX8_nights_73 : decode cX8_nights 73 = .ok (.aload_n 0, 1) := by decide +kernel
theorem dX8_nights_74 : decode cX8_nights 74 = .ok (.aload_n 0, 1) := by decide +kernel
theorem dX8_nights_75 : decode cX8_nights 75 = .ok (.aload_n 0, 1) := by decide +kernel
theorem dX8_nights_76 : decode cX8_nights 76 = .ok (.getfield 9, 3) := by decide +kernel
theorem dX8_nights_79 : decode cX8_nights 79 = .ok (.invokevirtual 288, 3) := by decide +kernel
theorem dX8_nights_82 : decode cX8_nights 82 = .ok (.i2l, 1) := by decide +kernel
theorem dX8_nights_83 : decode cX8_nights 83 = .ok (.invokevirtual 284, 3) := by decide +kernel
theorem dX8_nights_86 : decode cX8_nights 86 = .ok (.aload_n 0, 1) := by decide +kernel
theorem dX8_nights_87 : decode cX8_nights 87 = .ok (.getfield 9, 3) := by decide +kernel
theorem dX8_nights_90 : decode cX8_nights 90 = .ok (.bipush 25, 2) := by decide +kernel
theorem dX8_nights_92 : decode cX8_nights 92 = .ok (.iaload, 1) := by decide +kernel
theorem dX8_nights_93 : decode cX8_nights 93 = .ok (.iload_n 2, 1) := by decide +kernel
theorem dX8_nights_94 : decode cX8_nights 94 = .ok (.isub, 1) := by decide +kernel
theorem dX8_nights_95 : decode cX8_nights 95 = .ok (.ireturn, 1) := by decide +kernel
theorem dX8_number_0 : decode cX8_number 0 = .ok (.aload_n 0, 1) := by decide +kernel
theorem dX8_number_1 : decode cX8_number 1 = .ok (.bipush 48, 2) := by decide +kernel
theorem dX8_number_3 : decode cX8_number 3 = .ok (.bipush 10, 2) := by decide +kernel
theorem dX8_number_5 : decode cX8_number 5 = .ok (.invokevirtual 169, 3) := by decide +kernel
theorem dX8_number_8 : decode cX8_number 8 = .ok (.istore_n 2, 1) := by decide +kernel
theorem dX8_number_9 : decode cX8_number 9 = .ok (.iconst 1, 1) := by decide +kernel
theorem dX8_number_10 : decode cX8_number 10 = .ok (.istore_n 3, 1) := by decide +kernel
theorem dX8_number_11 : decode cX8_number 11 = .ok (.iload_n 3, 1) := by decide +kernel
theorem dX8_number_12 : decode cX8_number 12 = .ok (.iload_n 1, 1) := by decide +kernel
theorem dX8_number_13 : decode cX8_number 13 = .ok (.if_icmp .ge 44, 3) := by decide +kernel
theorem dX8_number_16 : decode cX8_number 16 = .ok (.aload_n 0, 1) := by decide +kernel
theorem dX8_number_17 : decode cX8_number 17 = .ok (.invokevirtual 153, 3) := by decide +kernel
theorem dX8_number_20 : decode cX8_number 20 = .ok (.ifCond .eq 37, 3) := by decide +kernel
theorem dX8_number_23 : decode cX8_number 23 = .ok (.aload_n 0, 1) := by decide +kernel
theorem dX8_number_24 : decode cX8_number 24 = .ok (.invokevirtual 157, 3) := by decide +kernel
theorem dX8_number_27 : decode cX8_number 27 = .ok (.bipush 48, 2) := by decide +kernel
theorem dX8_number_29 : decode cX8_number 29 = .ok (.bipush 57, 2) := by decide +kernel
theorem dX8_number_31 : decode cX8_number 31 = .ok (.invokestatic 123, 3) := by decide +kernel
theorem dX8_number_34 : decode cX8_number 34 = .ok (.ifCond .eq 23, 3) := by decide +kernel
theorem dX8_number_37 : decode cX8_number 37 = .ok (.bipush 10, 2) := by decide +kernel
theorem dX8_number_39 : decode cX8_number 39 = .ok (.iload_n 2, 1) := by decide +kernel
theorem dX8_number_40 : decode cX8_number 40 = .ok (.imul, 1) := by decide +kernel
theorem dX8_number_41 : decode cX8_number 41 = .ok (.aload_n 0, 1) := by decide +kernel
theorem dX8_number_42 : decode cX8_number 42 = .ok (.bipush 48, 2) := by decide +kernel
theorem dX8_number_44 : decode cX8_number 44 = .ok (.bipush 10, 2) := by decide +kernel
theorem dX8_number_46 : decode cX8_number 46 = .ok (.invokevirtual 169, 3) := by decide +kernel
theorem dX8_number_49 : decode cX8_number 49 = .ok (.iadd, 1) := by decide +kernel
theorem dX8_number_50 : decode cX8_number 50 = .ok (.istore_n 2, 1) := by decide +kernel
theorem dX8_number_51 : decode cX8_number 51 = .ok (.iinc 3 1, 3) := by decide +kernel
theorem dX8_number_54 : decode cX8_number 54 = .ok (.goto (-43), 3) := by decide +kernel
theorem dX8_number_57 : decode cX8_number 57 = .ok (.iload_n 2, 1) := by decide +kernel
theorem dX8_number_58 : decode cX8_number 58 = .ok (.ireturn, 1) := by decide +kernel
theorem dX8_oneOf_0 : decode cX8_oneOf 0 = .ok (.aload_n 0, 1) := by decide +kernel
theorem dX8_oneOf_1 : decode cX8_oneOf 1 = .ok (.invokevirtual 153, 3) := by decide +kernel
theorem dX8_oneOf_4 : decode cX8_oneOf 4 = .ok (.ifCond .ne 5, 3) := by decide +kernel
theorem dX8_oneOf_7 : decode cX8_oneOf 7 = .ok (.iconst 0, 1) := by decide +kernel
theorem dX8_oneOf_8 : decode cX8_oneOf 8 = .ok (.ireturn, 1) := by decide +kernel
theorem dX8_oneOf_9 : decode cX8_oneOf 9 = .ok (.aload_n 0, 1) := by decide +kernel
theorem dX8_oneOf_10 : decode cX8_oneOf 10 = .ok (.invokevirtual 157, 3) := by decide +kernel
theorem dX8_oneOf_13 : decode cX8_oneOf 13 = .ok (.iload_n 1, 1) := by decide +kernel
theorem dX8_oneOf_14 : decode cX8_oneOf 14 = .ok (.iload_n 1, 1) := by decide +kernel
theorem dX8_oneOf_15 : decode cX8_oneOf 15 = .ok (.iload_n 2, 1) := by decide +kernel
theorem dX8_oneOf_16 : decode cX8_oneOf 16 = .ok (.iadd, 1) := by decide +kernel
theorem dX8_oneOf_17 : decode cX8_oneOf 17 = .ok (.iconst 1, 1) := by decide +kernel
theorem dX8_oneOf_18 : decode cX8_oneOf 18 = .ok (.isub, 1) := by decide +kernel
theorem dX8_oneOf_19 : decode cX8_oneOf 19 = .ok (.invokestatic 123, 3) := by decide +kernel
theorem dX8_oneOf_22 : decode cX8_oneOf 22 = .ok (.ifCond .ne 13, 3) := by decide +kernel
theorem dX8_oneOf_25 : decode cX8_oneOf 25 = .ok (.aload_n 0, 1) := by decide +kernel
theorem dX8_oneOf_26 : decode cX8_oneOf 26 = .ok (.aload_n 0, 1) := by decide +kernel
theorem dX8_oneOf_27 : decode cX8_oneOf 27 = .ok (.getfield 143, 3) := by decide +kernel
theorem dX8_oneOf_30 : decode cX8_oneOf 30 = .ok (.invokevirtual 165, 3) := by decide +kernel
theorem dX8_oneOf_33 : decode cX8_oneOf 33 = .ok (.iconst 0, 1) := by decide +kernel
theorem dX8_oneOf_34 : decode cX8_oneOf 34 = .ok (.ireturn, 1) := by decide +kernel
theorem dX8_oneOf_35 : decode cX8_oneOf 35 = .ok (.aload_n 0, 1) := by decide +kernel
theorem dX8_oneOf_36 : decode cX8_oneOf 36 = .ok (.dup, 1) := by decide +kernel
theorem dX8_oneOf_37 : decode cX8_oneOf 37 = .ok (.getfield 143, 3) := by decide +kernel
theorem dX8_oneOf_40 : decode cX8_oneOf 40 = .ok (.iconst 1, 1) := by decide +kernel
theorem dX8_oneOf_41 : decode cX8_oneOf 41 = .ok (.iadd, 1) := by decide +kernel
theorem dX8_oneOf_42 : decode cX8_oneOf 42 = .ok (.putfield 143, 3) := by decide +kernel
theorem dX8_oneOf_45 : decode cX8_oneOf 45 = .ok (.aload_n 0, 1) := by decide +kernel
theorem dX8_oneOf_46 : decode cX8_oneOf 46 = .ok (.getfield 134, 3) := by decide +kernel
theorem dX8_oneOf_49 : decode cX8_oneOf 49 = .ok (.aload_n 0, 1) := by decide +kernel
theorem dX8_oneOf_50 : decode cX8_oneOf 50 = .ok (.getfield 143, 3) := by decide +kernel
theorem dX8_oneOf_53 : decode cX8_oneOf 53 = .ok (.iconst 1, 1) := by decide +kernel
theorem dX8_oneOf_54 : decode cX8_oneOf 54 = .ok (.isub, 1) := by decide +kernel
theorem dX8_oneOf_55 : decode cX8_oneOf 55 = .ok (.baload, 1) := by decide +kernel
theorem dX8_oneOf_56 : decode cX8_oneOf 56 = .ok (.iload_n 1, 1) := by decide +kernel
theorem dX8_oneOf_57 : decode cX8_oneOf 57 = .ok (.isub, 1) := by decide +kernel
theorem dX8_oneOf_58 : decode cX8_oneOf 58 = .ok (.ireturn, 1) := by decide +kernel
theorem dX8_otherGets_0 : decode cX8_otherGets 0 = .ok (.iload_n 1, 1) := by decide +kernel
theorem dX8_otherGets_1 : decode cX8_otherGets 1 = .ok (.iload_n 0, 1) := by decide +kernel
theorem dX8_otherGets_2 : decode cX8_otherGets 2 = .ok (.if_icmp .le 9, 3) := by decide +kernel
theorem dX8_otherGets_5 : decode cX8_otherGets 5 = .ok (.iload_n 2, 1) := by decide +kernel
theorem dX8_otherGets_6 : decode cX8_otherGets 6 = .ok (.iload_n 0, 1) := by decide +kernel
theorem dX8_otherGets_7 : decode cX8_otherGets 7 = .ok (.isub, 1) := by decide +kernel
theorem dX8_otherGets_8 : decode cX8_otherGets 8 = .ok (.goto 4, 3) := by decide +kernel
theorem dX8_otherGets_11 : decode cX8_otherGets 11 = .ok (.iconst 0, 1) := by decide +kernel
theorem dX8_otherGets_12 : decode cX8_otherGets 12 = .ok (.ireturn, 1) := by decide +kernel
theorem dX8_paid_0 : decode cX8_paid 0 = .ok (.aload_n 0, 1) := by decide +kernel
theorem dX8_paid_1 : decode cX8_paid 1 = .ok (.iconst 0, 1) := by decide +kernel
theorem dX8_paid_2 : decode cX8_paid 2 = .ok (.putfield 114, 3) := by decide +kernel
theorem dX8_paid_5 : decode cX8_paid 5 = .ok (.aload_n 0, 1) := by decide +kernel
theorem dX8_paid_6 : decode cX8_paid 6 = .ok (.iload_n 1, 1) := by decide +kernel
theorem dX8_paid_7 : decode cX8_paid 7 = .ok (.invokevirtual 127, 3) := by decide +kernel
theorem dX8_paid_10 : decode cX8_paid 10 = .ok (.ifCond .ne 5, 3) := by decide +kernel
theorem dX8_paid_13 : decode cX8_paid 13 = .ok (.iconst (-1), 1) := by decide +kernel
theorem dX8_paid_14 : decode cX8_paid 14 = .ok (.ireturn, 1) := by decide +kernel
theorem dX8_paid_15 : decode cX8_paid 15 = .ok (.aload_n 0, 1) := by decide +kernel
theorem dX8_paid_16 : decode cX8_paid 16 = .ok (.iload_n 1, 1) := by decide +kernel
theorem dX8_paid_17 : decode cX8_paid 17 = .ok (.invokevirtual 338, 3) := by decide +kernel
theorem dX8_paid_20 : decode cX8_paid 20 = .ok (.istore_n 2, 1) := by decide +kernel
theorem dX8_paid_21 : decode cX8_paid 21 = .ok (.aload_n 0, 1) := by decide +kernel
theorem dX8_paid_22 : decode cX8_paid 22 = .ok (.iconst (-1), 1) := by decide +kernel
theorem dX8_paid_23 : decode cX8_paid 23 = .ok (.invokevirtual 338, 3) := by decide +kernel
theorem dX8_paid_26 : decode cX8_paid 26 = .ok (.istore_n 3, 1) := by decide +kernel
theorem dX8_paid_27 : decode cX8_paid 27 = .ok (.iload_n 3, 1) := by decide +kernel
theorem dX8_paid_28 : decode cX8_paid 28 = .ok (.ldc 88, 2) := by decide +kernel
theorem dX8_paid_30 : decode cX8_paid 30 = .ok (.if_icmp .eq 9, 3) := by decide +kernel
theorem dX8_paid_33 : decode cX8_paid 33 = .ok (.iload_n 2, 1) := by decide +kernel
theorem dX8_paid_34 : decode cX8_paid 34 = .ok (.ldc 88, 2) := by decide +kernel
theorem dX8_paid_36 : decode cX8_paid 36 = .ok (.if_icmp .ne 6, 3) := by decide +kernel
theorem dX8_paid_39 : decode cX8_paid 39 = .ok (.bipush (-2), 2) := by decide +kernel
theorem dX8_paid_41 : decode cX8_paid 41 = .ok (.ireturn, 1) := by decide +kernel
theorem dX8_paid_42 : decode cX8_paid 42 = .ok (.aload_n 0, 1) := by decide +kernel
theorem dX8_paid_43 : decode cX8_paid 43 = .ok (.iconst 0, 1) := by decide +kernel
theorem dX8_paid_44 : decode cX8_paid 44 = .ok (.iload_n 3, 1) := by decide +kernel
theorem dX8_paid_45 : decode cX8_paid 45 = .ok (.invokevirtual 341, 3) := by decide +kernel
theorem dX8_paid_48 : decode cX8_paid 48 = .ok (.iconst 0, 1) := by decide +kernel
theorem dX8_paid_49 : decode cX8_paid 49 = .ok (.istore 4, 2) := by decide +kernel
theorem dX8_paid_51 : decode cX8_paid 51 = .ok (.iconst 0, 1) := by decide +kernel
theorem dX8_paid_52 : decode cX8_paid 52 = .ok (.istore 5, 2) := by decide +kernel
theorem dX8_paid_54 : decode cX8_paid 54 = .ok (.iload 5, 2) := by decide +kernel
theorem dX8_paid_56 : decode cX8_paid 56 = .ok (.aload_n 0, 1) := by decide +kernel
theorem dX8_paid_57 : decode cX8_paid 57 = .ok (.getfield 13, 3) := by decide +kernel
theorem dX8_paid_60 : decode cX8_paid 60 = .ok (.if_icmp .ge 41, 3) := by decide +kernel
theorem dX8_paid_63 : decode cX8_paid 63 = .ok (.iload 4, 2) := by decide +kernel
theorem dX8_paid_65 : decode cX8_paid 65 = .ok (.aload_n 0, 1) := by decide +kernel
theorem dX8_paid_66 : decode cX8_paid 66 = .ok (.getfield 92, 3) := by decide +kernel
theorem dX8_paid_69 : decode cX8_paid 69 = .ok (.iload 5, 2) := by decide +kernel
theorem dX8_paid_71 : decode cX8_paid 71 = .ok (.iaload, 1) := by decide +kernel
theorem dX8_paid_72 : decode cX8_paid 72 = .ok (.iload_n 1, 1) := by decide +kernel
theorem dX8_paid_73 : decode cX8_paid 73 = .ok (.if_icmp .ne 18, 3) := by decide +kernel
theorem dX8_paid_76 : decode cX8_paid 76 = .ok (.aload_n 0, 1) := by decide +kernel
theorem dX8_paid_77 : decode cX8_paid 77 = .ok (.getfield 79, 3) := by decide +kernel
theorem dX8_paid_80 : decode cX8_paid 80 = .ok (.bipush 8, 2) := by decide +kernel
theorem dX8_paid_82 : decode cX8_paid 82 = .ok (.iload_n 1, 1) := by decide +kernel
theorem dX8_paid_83 : decode cX8_paid 83 = .ok (.imul, 1) := by decide +kernel
theorem dX8_paid_84 : decode cX8_paid 84 = .ok (.iload 5, 2) := by decide +kernel
theorem dX8_paid_86 : decode cX8_paid 86 = .ok (.iadd, 1) := by decide +kernel
theorem dX8_paid_87 : decode cX8_paid 87 = .ok (.iaload, 1) := by decide +kernel
theorem dX8_paid_88 : decode cX8_paid 88 = .ok (.goto 4, 3) := by decide +kernel
theorem dX8_paid_91 : decode cX8_paid 91 = .ok (.iconst 0, 1) := by decide +kernel
theorem dX8_paid_92 : decode cX8_paid 92 = .ok (.iadd, 1) := by decide +kernel
theorem dX8_paid_93 : decode cX8_paid 93 = .ok (.istore 4, 2) := by decide +kernel
theorem dX8_paid_95 : decode cX8_paid 95 = .ok (.iinc 5 1, 3) := by decide +kernel
theorem dX8_paid_98 : decode cX8_paid 98 = .ok (.goto (-44), 3) := by decide +kernel
theorem dX8_paid_101 : decode cX8_paid 101 = .ok (.aload_n 0, 1) := by decide +kernel
theorem dX8_paid_102 : decode cX8_paid 102 = .ok (.iconst 0, 1) := by decide +kernel
theorem dX8_paid_103 : decode cX8_paid 103 = .ok (.putfield 117, 3) := by decide +kernel
theorem dX8_paid_106 : decode cX8_paid 106 = .ok (.aload_n 0, 1) := by decide +kernel
theorem dX8_paid_107 : decode cX8_paid 107 = .ok (.iload 4, 2) := by decide +kernel
theorem dX8_paid_109 : decode cX8_paid 109 = .ok (.i2l, 1) := by decide +kernel
theorem dX8_paid_110 : decode cX8_paid 110 = .ok (.invokevirtual 284, 3) := by decide +kernel
theorem dX8_paid_113 : decode cX8_paid 113 = .ok (.aload_n 0, 1) := by decide +kernel
theorem dX8_paid_114 : decode cX8_paid 114 = .ok (.iload_n 3, 1) := by decide +kernel
theorem dX8_paid_115 : decode cX8_paid 115 = .ok (.iload 4, 2) := by decide +kernel
theorem dX8_paid_117 : decode cX8_paid 117 = .ok (.isub, 1) := by decide +kernel
theorem dX8_paid_118 : decode cX8_paid 118 = .ok (.i2l, 1) := by decide +kernel
theorem dX8_paid_119 : decode cX8_paid 119 = .ok (.invokevirtual 284, 3) := by decide +kernel
theorem dX8_paid_122 : decode cX8_paid 122 = .ok (.iload_n 2, 1) := by decide +kernel
theorem dX8_paid_123 : decode cX8_paid 123 = .ok (.iload_n 3, 1) := by decide +kernel
theorem dX8_paid_124 : decode cX8_paid 124 = .ok (.iload 4, 2) := by decide +kernel
theorem dX8_paid_126 : decode cX8_paid 126 = .ok (.isub, 1) := by decide +kernel
theorem dX8_paid_127 : decode cX8_paid 127 = .ok (.isub, 1) := by decide +kernel
theorem dX8_paid_128 : decode cX8_paid 128 = .ok (.ireturn, 1) := by decide +kernel
theorem dX8_passes_0 : decode cX8_passes 0 = .ok (.aload_n 0, 1) := by decide +kernel
theorem dX8_passes_1 : decode cX8_passes 1 = .ok (.invokevirtual 153, 3) := by decide +kernel
theorem dX8_passes_4 : decode cX8_passes 4 = .ok (.ifCond .eq 11, 3) := by decide +kernel
theorem dX8_passes_7 : decode cX8_passes 7 = .ok (.aload_n 0, 1) := by decide +kernel
theorem dX8_passes_8 : decode cX8_passes 8 = .ok (.invokevirtual 157, 3) := by decide +kernel
theorem dX8_passes_11 : decode cX8_passes 11 = .ok (.iload_n 1, 1) := by decide +kernel
theorem dX8_passes_12 : decode cX8_passes 12 = .ok (.if_icmp .eq 5, 3) := by decide +kernel
theorem dX8_passes_15 : decode cX8_passes 15 = .ok (.iconst 0, 1) := by decide +kernel
theorem dX8_passes_16 : decode cX8_passes 16 = .ok (.ireturn, 1) := by decide +kernel
theorem dX8_passes_17 : decode cX8_passes 17 = .ok (.aload_n 0, 1) := by decide +kernel
theorem dX8_passes_18 : decode cX8_passes 18 = .ok (.dup, 1) := by decide +kernel
theorem dX8_passes_19 : decode cX8_passes 19 = .ok (.getfield 143, 3) := by decide +kernel
theorem dX8_passes_22 : decode cX8_passes 22 = .ok (.iconst 1, 1) := by decide +kernel
theorem dX8_passes_23 : decode cX8_passes 23 = .ok (.iadd, 1) := by decide +kernel
theorem dX8_passes_24 : decode cX8_passes 24 = .ok (.putfield 143, 3) := by decide +kernel
theorem dX8_passes_27 : decode cX8_passes 27 = .ok (.iconst 1, 1) := by decide +kernel
theorem dX8_passes_28 : decode cX8_passes 28 = .ok (.ireturn, 1) := by decide +kernel
theorem dX8_power_0 : decode cX8_power 0 = .ok (.lconst 1, 1) := by decide +kernel
theorem dX8_power_1 : decode cX8_power 1 = .ok (.lstore_n 3, 1) := by decide +kernel
theorem dX8_power_2 : decode cX8_power 2 = .ok (.iconst 0, 1) := by decide +kernel
theorem dX8_power_3 : decode cX8_power 3 = .ok (.istore 5, 2) := by decide +kernel
theorem dX8_power_5 : decode cX8_power 5 = .ok (.iload 5, 2) := by decide +kernel
theorem dX8_power_7 : decode cX8_power 7 = .ok (.iload_n 2, 1) := by decide +kernel
theorem dX8_power_8 : decode cX8_power 8 = .ok (.if_icmp .ge 13, 3) := by decide +kernel
theorem dX8_power_11 : decode cX8_power 11 = .ok (.lload_n 3, 1) := by decide +kernel
theorem dX8_power_12 : decode cX8_power 12 = .ok (.lload_n 0, 1) := by decide +kernel
theorem dX8_power_13 : decode cX8_power 13 = .ok (.lmul, 1) := by decide +kernel
theorem dX8_power_14 : decode cX8_power 14 = .ok (.lstore_n 3, 1) := by decide +kernel
theorem dX8_power_15 : decode cX8_power 15 = .ok (.iinc 5 1, 3) := by decide +kernel
theorem dX8_power_18 : decode cX8_power 18 = .ok (.goto (-13), 3) := by decide +kernel
theorem dX8_power_21 : decode cX8_power 21 = .ok (.lload_n 3, 1) := by decide +kernel
theorem dX8_power_22 : decode cX8_power 22 = .ok (.lreturn, 1) := by decide +kernel
theorem dX8_product_0 : decode cX8_product 0 = .ok (.aload_n 0, 1) := by decide +kernel
theorem dX8_product_1 : decode cX8_product 1 = .ok (.iload_n 1, 1) := by decide +kernel
theorem dX8_product_2 : decode cX8_product 2 = .ok (.invokevirtual 195, 3) := by decide +kernel
theorem dX8_product_5 : decode cX8_product 5 = .ok (.istore_n 2, 1) := by decide +kernel
theorem dX8_product_6 : decode cX8_product 6 = .ok (.aload_n 0, 1) := by decide +kernel
theorem dX8_product_7 : decode cX8_product 7 = .ok (.invokevirtual 153, 3) := by decide +kernel
theorem dX8_product_10 : decode cX8_product 10 = .ok (.ifCond .eq 81, 3) := by decide +kernel
theorem dX8_product_13 : decode cX8_product 13 = .ok (.aload_n 0, 1) := by decide +kernel
theorem dX8_product_14 : decode cX8_product 14 = .ok (.invokevirtual 157, 3) := by decide +kernel
theorem dX8_product_17 : decode cX8_product 17 = .ok (.bipush 42, 2) := by decide +kernel
theorem dX8_product_19 : decode cX8_product 19 = .ok (.if_icmp .eq 12, 3) := by decide +kernel
theorem dX8_product_22 : decode cX8_product 22 = .ok (.aload_n 0, 1) := by decide +kernel
theorem dX8_product_23 : decode cX8_product 23 = .ok (.invokevirtual 157, 3) := by decide +kernel
theorem dX8_product_26 : decode cX8_product 26 = .ok (.bipush 47, 2) := by decide +kernel
theorem dX8_product_28 : decode cX8_product 28 = .ok (.if_icmp .ne 63, 3) := by decide +kernel
theorem dX8_product_31 : decode cX8_product 31 = .ok (.aload_n 0, 1) := by decide +kernel
theorem dX8_product_32 : decode cX8_product 32 = .ok (.invokevirtual 157, 3) := by decide +kernel
theorem dX8_product_35 : decode cX8_product 35 = .ok (.bipush 42, 2) := by decide +kernel
theorem dX8_product_37 : decode cX8_product 37 = .ok (.if_icmp .ne 7, 3) := by decide +kernel
theorem dX8_product_40 : decode cX8_product 40 = .ok (.iconst 1, 1) := by decide +kernel
theorem dX8_product_41 : decode cX8_product 41 = .ok (.goto 4, 3) := by decide +kernel
theorem dX8_product_44 : decode cX8_product 44 = .ok (.iconst 0, 1) := by decide +kernel
theorem dX8_product_45 : decode cX8_product 45 = .ok (.istore_n 3, 1) := by decide +kernel
theorem dX8_product_46 : decode cX8_product 46 = .ok (.aload_n 0, 1) := by decide +kernel
theorem dX8_product_47 : decode cX8_product 47 = .ok (.dup, 1) := by decide +kernel
theorem dX8_product_48 : decode cX8_product 48 = .ok (.getfield 143, 3) := by decide +kernel
theorem dX8_product_51 : decode cX8_product 51 = .ok (.iconst 1, 1) := by decide +kernel
theorem dX8_product_52 : decode cX8_product 52 = .ok (.iadd, 1) := by decide +kernel
theorem dX8_product_53 : decode cX8_product 53 = .ok (.putfield 143, 3) := by decide +kernel
theorem dX8_product_56 : decode cX8_product 56 = .ok (.aload_n 0, 1) := by decide +kernel
theorem dX8_product_57 : decode cX8_product 57 = .ok (.iload_n 1, 1) := by decide +kernel
theorem dX8_product_58 : decode cX8_product 58 = .ok (.invokevirtual 195, 3) := by decide +kernel
theorem dX8_product_61 : decode cX8_product 61 = .ok (.istore 4, 2) := by decide +kernel
theorem dX8_product_63 : decode cX8_product 63 = .ok (.iload_n 3, 1) := by decide +kernel
theorem dX8_product_64 : decode cX8_product 64 = .ok (.ifCond .eq 10, 3) := by decide +kernel
theorem dX8_product_67 : decode cX8_product 67 = .ok (.iload_n 2, 1) := by decide +kernel
theorem dX8_product_68 : decode cX8_product 68 = .ok (.iload 4, 2) := by decide +kernel
theorem dX8_product_70 : decode cX8_product 70 = .ok (.imul, 1) := by decide +kernel
theorem dX8_product_71 : decode cX8_product 71 = .ok (.goto 16, 3) := by decide +kernel
theorem dX8_product_74 : decode cX8_product 74 = .ok (.iload 4, 2) := by decide +kernel
theorem dX8_product_76 : decode cX8_product 76 = .ok (.ifCond .ne 7, 3) := by decide +kernel
theorem dX8_product_79 : decode cX8_product 79 = .ok (.iconst 0, 1) := by decide +kernel
theorem dX8_product_80 : decode cX8_product 80 = .ok (.goto 7, 3) := by decide +kernel
theorem dX8_product_83 : decode cX8_product 83 = .ok (.iload_n 2, 1) := by decide +kernel
theorem dX8_product_84 : decode cX8_product 84 = .ok (.iload 4, 2) := by decide +kernel
theorem dX8_product_86 : decode cX8_product 86 = .ok (.idiv, 1) := by decide +kernel
theorem dX8_product_87 : decode cX8_product 87 = .ok (.istore_n 2, 1) := by decide +kernel
theorem dX8_product_88 : decode cX8_product 88 = .ok (.goto (-82), 3) := by decide +kernel
theorem dX8_product_91 : decode cX8_product 91 = .ok (.iload_n 2, 1) := by decide +kernel
theorem dX8_product_92 : decode cX8_product 92 = .ok (.ireturn, 1) := by decide +kernel
theorem dX8_readAct_0 : decode cX8_readAct 0 = .ok (.aload_n 0, 1) := by decide +kernel
theorem dX8_readAct_1 : decode cX8_readAct 1 = .ok (.invokevirtual 157, 3) := by decide +kernel
theorem dX8_readAct_4 : decode cX8_readAct 4 = .ok (.istore_n 2, 1) := by decide +kernel
theorem dX8_readAct_5 : decode cX8_readAct 5 = .ok (.iload_n 2, 1) := by decide +kernel
theorem dX8_readAct_6 : decode cX8_readAct 6 = .ok (.bipush 110, 2) := by decide +kernel
theorem dX8_readAct_8 : decode cX8_readAct 8 = .ok (.if_icmp .eq 30, 3) := by decide +kernel
theorem dX8_readAct_11 : decode cX8_readAct 11 = .ok (.iload_n 2, 1) := by decide +kernel
theorem dX8_readAct_12 : decode cX8_readAct 12 = .ok (.bipush 105, 2) := by decide +kernel
theorem dX8_readAct_14 : decode cX8_readAct 14 = .ok (.if_icmp .eq 24, 3) := by decide +kernel
theorem dX8_readAct_17 : decode cX8_readAct 17 = .ok (.iload_n 2, 1) := by decide +kernel
theorem dX8_readAct_18 : decode cX8_readAct 18 = .ok (.bipush 103, 2) := by decide +kernel
theorem dX8_readAct_20 : decode cX8_readAct 20 = .ok (.if_icmp .eq 18, 3) := by decide +kernel
theorem dX8_readAct_23 : decode cX8_readAct 23 = .ok (.iload_n 2, 1) := by decide +kernel
theorem dX8_readAct_24 : decode cX8_readAct 24 = .ok (.bipush 120, 2) := by decide +kernel
theorem dX8_readAct_26 : decode cX8_readAct 26 = .ok (.if_icmp .eq 12, 3) := by decide +kernel
theorem dX8_readAct_29 : decode cX8_readAct 29 = .ok (.aload_n 0, 1) := by decide +kernel
theorem dX8_readAct_30 : decode cX8_readAct 30 = .ok (.aload_n 0, 1) := by decide +kernel
theorem dX8_readAct_31 : decode cX8_readAct 31 = .ok (.getfield 143, 3) := by decide +kernel
theorem dX8_readAct_34 : decode cX8_readAct 34 = .ok (.invokevirtual 165, 3) := by decide +kernel
theorem dX8_readAct_37 : decode cX8_readAct 37 = .ok (.return_, 1) := by decide +kernel
theorem dX8_readAct_38 : decode cX8_readAct 38 = .ok (.aload_n 0, 1) := by decide +kernel
theorem dX8_readAct_39 : decode cX8_readAct 39 = .ok (.dup, 1) := by decide +kernel
theorem dX8_readAct_40 : decode cX8_readAct 40 = .ok (.getfield 143, 3) := by decide +kernel
theorem dX8_readAct_43 : decode cX8_readAct 43 = .ok (.iconst 1, 1) := by decide +kernel
theorem dX8_readAct_44 : decode cX8_readAct 44 = .ok (.iadd, 1) := by decide +kernel
theorem dX8_readAct_45 : decode cX8_readAct 45 = .ok (.putfield 143, 3) := by decide +kernel
theorem dX8_readAct_48 : decode cX8_readAct 48 = .ok (.aload_n 0, 1) := by decide +kernel
theorem dX8_readAct_49 : decode cX8_readAct 49 = .ok (.getfield 64, 3) := by decide +kernel
theorem dX8_readAct_52 : decode cX8_readAct 52 = .ok (.iload_n 1, 1) := by decide +kernel
theorem dX8_readAct_53 : decode cX8_readAct 53 = .ok (.iload_n 2, 1) := by decide +kernel
theorem dX8_readAct_54 : decode cX8_readAct 54 = .ok (.iastore, 1) := by decide +kernel
theorem dX8_readAct_55 : decode cX8_readAct 55 = .ok (.aload_n 0, 1) := by decide +kernel
theorem dX8_readAct_56 : decode cX8_readAct 56 = .ok (.getfield 64, 3) := by decide +kernel
theorem dX8_readAct_59 : decode cX8_readAct 59 = .ok (.iload_n 1, 1) := by decide +kernel
theorem dX8_readAct_60 : decode cX8_readAct 60 = .ok (.iconst 1, 1) := by decide +kernel
theorem dX8_readAct_61 : decode cX8_readAct 61 = .ok (.iadd, 1) := by decide +kernel
theorem dX8_readAct_62 : decode cX8_readAct 62 = .ok (.aload_n 0, 1) := by decide +kernel
theorem dX8_readAct_63 : decode cX8_readAct 63 = .ok (.bipush 48, 2) := by decide +kernel
theorem dX8_readAct_65 : decode cX8_readAct 65 = .ok (.bipush 10, 2) := by decide +kernel
theorem dX8_readAct_67 : decode cX8_readAct 67 = .ok (.invokevirtual 169, 3) := by decide +kernel
theorem dX8_readAct_70 : decode cX8_readAct 70 = .ok (.iastore, 1) := by decide +kernel
theorem dX8_readAct_71 : decode cX8_readAct 71 = .ok (.iload_n 2, 1) := by decide +kernel
theorem dX8_readAct_72 : decode cX8_readAct 72 = .ok (.bipush 103, 2) := by decide +kernel
theorem dX8_readAct_74 : decode cX8_readAct 74 = .ok (.if_icmp .ne 32, 3) := by decide +kernel
theorem dX8_readAct_77 : decode cX8_readAct 77 = .ok (.aload_n 0, 1) := by decide +kernel
theorem dX8_readAct_78 : decode cX8_readAct 78 = .ok (.getfield 64, 3) := by decide +kernel
theorem dX8_readAct_81 : decode cX8_readAct 81 = .ok (.iload_n 1, 1) := by decide +kernel
theorem dX8_readAct_82 : decode cX8_readAct 82 = .ok (.iconst 2, 1) := by decide +kernel
theorem dX8_readAct_83 : decode cX8_readAct 83 = .ok (.iadd, 1) := by decide +kernel
theorem dX8_readAct_84 : decode cX8_readAct 84 = .ok (.aload_n 0, 1) := by decide +kernel
theorem dX8_readAct_85 : decode cX8_readAct 85 = .ok (.bipush 45, 2) := by decide +kernel
theorem dX8_readAct_87 : decode cX8_readAct 87 = .ok (.invokevirtual 161, 3) := by decide +kernel
theorem dX8_readAct_90 : decode cX8_readAct 90 = .ok (.ifCond .eq 7, 3) := by decide +kernel
theorem dX8_readAct_93 : decode cX8_readAct 93 = .ok (.iconst (-1), 1) := by decide +kernel
theorem dX8_readAct_94 : decode cX8_readAct 94 = .ok (.goto 11, 3) := by decide +kernel
theorem dX8_readAct_97 : decode cX8_readAct 97 = .ok (.aload_n 0, 1) := by decide +kernel
theorem dX8_readAct_98 : decode cX8_readAct 98 = .ok (.bipush 48, 2) := by decide +kernel
theorem dX8_readAct_100 : decode cX8_readAct 100 = .ok (.bipush 10, 2) := by decide +kernel
theorem dX8_readAct_102 : decode cX8_readAct 102 = .ok (.invokevirtual 169, 3) := by decide +kernel
theorem dX8_readAct_105 : decode cX8_readAct 105 = .ok (.iastore, 1) := by decide +kernel
theorem dX8_readAct_106 : decode cX8_readAct 106 = .ok (.iload_n 2, 1) := by decide +kernel
theorem dX8_readAct_107 : decode cX8_readAct 107 = .ok (.bipush 120, 2) := by decide +kernel
theorem dX8_readAct_109 : decode cX8_readAct 109 = .ok (.if_icmp .ne 19, 3) := by decide +kernel
theorem dX8_readAct_112 : decode cX8_readAct 112 = .ok (.aload_n 0, 1) := by decide +kernel
theorem dX8_readAct_113 : decode cX8_readAct 113 = .ok (.getfield 64, 3) := by decide +kernel
theorem dX8_readAct_116 : decode cX8_readAct 116 = .ok (.iload_n 1, 1) := by decide +kernel
theorem dX8_readAct_117 : decode cX8_readAct 117 = .ok (.iconst 2, 1) := by decide +kernel
theorem dX8_readAct_118 : decode cX8_readAct 118 = .ok (.iadd, 1) := by decide +kernel
theorem dX8_readAct_119 : decode cX8_readAct 119 = .ok (.aload_n 0, 1) := by decide +kernel
theorem dX8_readAct_120 : decode cX8_readAct 120 = .ok (.bipush 48, 2) := by decide +kernel
theorem dX8_readAct_122 : decode cX8_readAct 122 = .ok (.bipush 10, 2) := by decide +kernel
theorem dX8_readAct_124 : decode cX8_readAct 124 = .ok (.invokevirtual 169, 3) := by decide +kernel
theorem dX8_readAct_127 : decode cX8_readAct 127 = .ok (.iastore, 1) := by decide +kernel
theorem dX8_readAct_128 : decode cX8_readAct 128 = .ok (.return_, 1) := by decide +kernel
theorem dX8_readMan_0 : decode cX8_readMan 0 = .ok (.aload_n 0, 1) := by decide +kernel
theorem dX8_readMan_1 : decode cX8_readMan 1 = .ok (.getfield 37, 3) := by decide +kernel
theorem dX8_readMan_4 : decode cX8_readMan 4 = .ok (.iload_n 1, 1) := by decide +kernel
theorem dX8_readMan_5 : decode cX8_readMan 5 = .ok (.aload_n 0, 1) := by decide +kernel
theorem dX8_readMan_6 : decode cX8_readMan 6 = .ok (.bipush 49, 2) := by decide +kernel
theorem dX8_readMan_8 : decode cX8_readMan 8 = .ok (.iconst 4, 1) := by decide +kernel
theorem dX8_readMan_9 : decode cX8_readMan 9 = .ok (.invokevirtual 169, 3) := by decide +kernel
theorem dX8_readMan_12 : decode cX8_readMan 12 = .ok (.iconst 1, 1) := by decide +kernel
theorem dX8_readMan_13 : decode cX8_readMan 13 = .ok (.iadd, 1) := by decide +kernel
theorem dX8_readMan_14 : decode cX8_readMan 14 = .ok (.iastore, 1) := by decide +kernel
theorem dX8_readMan_15 : decode cX8_readMan 15 = .ok (.aload_n 0, 1) := by decide +kernel
theorem dX8_readMan_16 : decode cX8_readMan 16 = .ok (.getfield 37, 3) := by decide +kernel
theorem dX8_readMan_19 : decode cX8_readMan 19 = .ok (.iload_n 1, 1) := by decide +kernel
theorem dX8_readMan_20 : decode cX8_readMan 20 = .ok (.iconst 1, 1) := by decide +kernel
theorem dX8_readMan_21 : decode cX8_readMan 21 = .ok (.iadd, 1) := by decide +kernel
theorem dX8_readMan_22 : decode cX8_readMan 22 = .ok (.aload_n 0, 1) := by decide +kernel
theorem dX8_readMan_23 : decode cX8_readMan 23 = .ok (.bipush 49, 2) := by decide +kernel
theorem dX8_readMan_25 : decode cX8_readMan 25 = .ok (.bipush 9, 2) := by decide +kernel
theorem dX8_readMan_27 : decode cX8_readMan 27 = .ok (.invokevirtual 169, 3) := by decide +kernel
theorem dX8_readMan_30 : decode cX8_readMan 30 = .ok (.iconst 1, 1) := by decide +kernel
theorem dX8_readMan_31 : decode cX8_readMan 31 = .ok (.iadd, 1) := by decide +kernel
theorem dX8_readMan_32 : decode cX8_readMan 32 = .ok (.iastore, 1) := by decide +kernel
theorem dX8_readMan_33 : decode cX8_readMan 33 = .ok (.aload_n 0, 1) := by decide +kernel
theorem dX8_readMan_34 : decode cX8_readMan 34 = .ok (.getfield 37, 3) := by decide +kernel
theorem dX8_readMan_37 : decode cX8_readMan 37 = .ok (.iload_n 1, 1) := by decide +kernel
theorem dX8_readMan_38 : decode cX8_readMan 38 = .ok (.iconst 2, 1) := by decide +kernel
theorem dX8_readMan_39 : decode cX8_readMan 39 = .ok (.iadd, 1) := by decide +kernel
theorem dX8_readMan_40 : decode cX8_readMan 40 = .ok (.iconst 0, 1) := by decide +kernel
theorem dX8_readMan_41 : decode cX8_readMan 41 = .ok (.iastore, 1) := by decide +kernel
theorem dX8_readMan_42 : decode cX8_readMan 42 = .ok (.iconst (-1), 1) := by decide +kernel
theorem dX8_readMan_43 : decode cX8_readMan 43 = .ok (.istore_n 2, 1) := by decide +kernel
theorem dX8_readMan_44 : decode cX8_readMan 44 = .ok (.aload_n 0, 1) := by decide +kernel
theorem dX8_readMan_45 : decode cX8_readMan 45 = .ok (.invokevirtual 153, 3) := by decide +kernel
theorem dX8_readMan_48 : decode cX8_readMan 48 = .ok (.ifCond .eq 70, 3) := by decide +kernel
theorem dX8_readMan_51 : decode cX8_readMan 51 = .ok (.aload_n 0, 1) := by decide +kernel
theorem dX8_readMan_52 : decode cX8_readMan 52 = .ok (.invokevirtual 157, 3) := by decide +kernel
theorem dX8_readMan_55 : decode cX8_readMan 55 = .ok (.bipush 97, 2) := by decide +kernel
theorem dX8_readMan_57 : decode cX8_readMan 57 = .ok (.bipush 104, 2) := by decide +kernel
theorem dX8_readMan_59 : decode cX8_readMan 59 = .ok (.invokestatic 123, 3) := by decide +kernel
theorem dX8_readMan_62 : decode cX8_readMan 62 = .ok (.ifCond .eq 56, 3) := by decide +kernel
theorem dX8_readMan_65 : decode cX8_readMan 65 = .ok (.aload_n 0, 1) := by decide +kernel
theorem dX8_readMan_66 : decode cX8_readMan 66 = .ok (.invokevirtual 157, 3) := by decide +kernel
theorem dX8_readMan_69 : decode cX8_readMan 69 = .ok (.bipush 97, 2) := by decide +kernel
theorem dX8_readMan_71 : decode cX8_readMan 71 = .ok (.isub, 1) := by decide +kernel
theorem dX8_readMan_72 : decode cX8_readMan 72 = .ok (.istore_n 3, 1) := by decide +kernel
theorem dX8_readMan_73 : decode cX8_readMan 73 = .ok (.iload_n 3, 1) := by decide +kernel
theorem dX8_readMan_74 : decode cX8_readMan 74 = .ok (.iload_n 2, 1) := by decide +kernel
theorem dX8_readMan_75 : decode cX8_readMan 75 = .ok (.if_icmp .gt 14, 3) := by decide +kernel
theorem dX8_readMan_78 : decode cX8_readMan 78 = .ok (.aload_n 0, 1) := by decide +kernel
theorem dX8_readMan_79 : decode cX8_readMan 79 = .ok (.aload_n 0, 1) := by decide +kernel
theorem dX8_readMan_80 : decode cX8_readMan 80 = .ok (.getfield 143, 3) := by decide +kernel
theorem dX8_readMan_83 : decode cX8_readMan 83 = .ok (.invokevirtual 165, 3) := by decide +kernel
theorem dX8_readMan_86 : decode cX8_readMan 86 = .ok (.goto 29, 3) := by decide +kernel
theorem dX8_readMan_89 : decode cX8_readMan 89 = .ok (.aload_n 0, 1) := by decide +kernel
theorem dX8_readMan_90 : decode cX8_readMan 90 = .ok (.dup, 1) := by decide +kernel
theorem dX8_readMan_91 : decode cX8_readMan 91 = .ok (.getfield 143, 3) := by decide +kernel
theorem dX8_readMan_94 : decode cX8_readMan 94 = .ok (.iconst 1, 1) := by decide +kernel
theorem dX8_readMan_95 : decode cX8_readMan 95 = .ok (.iadd, 1) := by decide +kernel
theorem dX8_readMan_96 : decode cX8_readMan 96 = .ok (.putfield 143, 3) := by decide +kernel
theorem dX8_readMan_99 : decode cX8_readMan 99 = .ok (.aload_n 0, 1) := by decide +kernel
theorem dX8_readMan_100 : decode cX8_readMan 100 = .ok (.getfield 37, 3) := by decide +kernel
theorem dX8_readMan_103 : decode cX8_readMan 103 = .ok (.iload_n 1, 1) := by decide +kernel
theorem dX8_readMan_104 : decode cX8_readMan 104 = .ok (.iconst 2, 1) := by decide +kernel
theorem dX8_readMan_105 : decode cX8_readMan 105 = .ok (.iadd, 1) := by decide +kernel
theorem dX8_readMan_106 : decode cX8_readMan 106 = .ok (.dup2, 1) := by decide +kernel
theorem dX8_readMan_107 : decode cX8_readMan 107 = .ok (.iaload, 1) := by decide +kernel
theorem dX8_readMan_108 : decode cX8_readMan 108 = .ok (.iconst 1, 1) := by decide +kernel
theorem dX8_readMan_109 : decode cX8_readMan 109 = .ok (.iload_n 3, 1) := by decide +kernel
theorem dX8_readMan_110 : decode cX8_readMan 110 = .ok (.ishl, 1) := by decide +kernel
theorem dX8_readMan_111 : decode cX8_readMan 111 = .ok (.ior, 1) := by decide +kernel
theorem dX8_readMan_112 : decode cX8_readMan 112 = .ok (.iastore, 1) := by decide +kernel
theorem dX8_readMan_113 : decode cX8_readMan 113 = .ok (.iload_n 3, 1) := by decide +kernel
theorem dX8_readMan_114 : decode cX8_readMan 114 = .ok (.istore_n 2, 1) := by decide +kernel
theorem dX8_readMan_115 : decode cX8_readMan 115 = .ok (.goto (-71), 3) := by decide +kernel
theorem dX8_readMan_118 : decode cX8_readMan 118 = .ok (.return_, 1) := by decide +kernel
theorem dX8_readRule_0 : decode cX8_readRule 0 = .ok (.aload_n 0, 1) := by decide +kernel
theorem dX8_readRule_1 : decode cX8_readRule 1 = .ok (.bipush 40, 2) := by decide +kernel
theorem dX8_readRule_3 : decode cX8_readRule 3 = .ok (.invokevirtual 173, 3) := by decide +kernel
theorem dX8_readRule_6 : decode cX8_readRule 6 = .ok (.aload_n 0, 1) := by decide +kernel
theorem dX8_readRule_7 : decode cX8_readRule 7 = .ok (.iconst 0, 1) := by decide +kernel
theorem dX8_readRule_8 : decode cX8_readRule 8 = .ok (.putfield 211, 3) := by decide +kernel
theorem dX8_readRule_11 : decode cX8_readRule 11 = .ok (.aload_n 0, 1) := by decide +kernel
theorem dX8_readRule_12 : decode cX8_readRule 12 = .ok (.getfield 137, 3) := by decide +kernel
theorem dX8_readRule_15 : decode cX8_readRule 15 = .ok (.ifCond .le 9, 3) := by decide +kernel
theorem dX8_readRule_18 : decode cX8_readRule 18 = .ok (.aload_n 0, 1) := by decide +kernel
theorem dX8_readRule_19 : decode cX8_readRule 19 = .ok (.iconst 0, 1) := by decide +kernel
theorem dX8_readRule_20 : decode cX8_readRule 20 = .ok (.invokevirtual 198, 3) := by decide +kernel
theorem dX8_readRule_23 : decode cX8_readRule 23 = .ok (.pop, 1) := by decide +kernel
theorem dX8_readRule_24 : decode cX8_readRule 24 = .ok (.aload_n 0, 1) := by decide +kernel
theorem dX8_readRule_25 : decode cX8_readRule 25 = .ok (.invokevirtual 179, 3) := by decide +kernel
theorem dX8_readRule_28 : decode cX8_readRule 28 = .ok (.ireturn, 1) := by decide +kernel
theorem dX8_remember_0 : decode cX8_remember 0 = .ok (.aload_n 0, 1) := by decide +kernel
theorem dX8_remember_1 : decode cX8_remember 1 = .ok (.getfield 182, 3) := by decide +kernel
theorem dX8_remember_4 : decode cX8_remember 4 = .ok (.bipush 12, 2) := by decide +kernel
theorem dX8_remember_6 : decode cX8_remember 6 = .ok (.if_icmp .ne 43, 3) := by decide +kernel
theorem dX8_remember_9 : decode cX8_remember 9 = .ok (.iconst 0, 1) := by decide +kernel
theorem dX8_remember_10 : decode cX8_remember 10 = .ok (.istore_n 2, 1) := by decide +kernel
theorem dX8_remember_11 : decode cX8_remember 11 = .ok (.iload_n 2, 1) := by decide +kernel
theorem dX8_remember_12 : decode cX8_remember 12 = .ok (.sipush 297, 3) := by decide +kernel
theorem dX8_remember_15 : decode cX8_remember 15 = .ok (.if_icmp .ge 24, 3) := by decide +kernel
theorem dX8_remember_18 : decode cX8_remember 18 = .ok (.aload_n 0, 1) := by decide +kernel
theorem dX8_remember_19 : decode cX8_remember 19 = .ok (.getfield 49, 3) := by decide +kernel
theorem dX8_remember_22 : decode cX8_remember 22 = .ok (.iload_n 2, 1) := by decide +kernel
theorem dX8_remember_23 : decode cX8_remember 23 = .ok (.aload_n 0, 1) := by decide +kernel
theorem dX8_remember_24 : decode cX8_remember 24 = .ok (.getfield 49, 3) := by decide +kernel
theorem dX8_remember_27 : decode cX8_remember 27 = .ok (.iload_n 2, 1) := by decide +kernel
theorem dX8_remember_28 : decode cX8_remember 28 = .ok (.bipush 27, 2) := by decide +kernel
theorem dX8_remember_30 : decode cX8_remember 30 = .ok (.iadd, 1) := by decide +kernel
theorem dX8_remember_31 : decode cX8_remember 31 = .ok (.iaload, 1) := by decide +kernel
theorem dX8_remember_32 : decode cX8_remember 32 = .ok (.iastore, 1) := by decide +kernel
theorem dX8_remember_33 : decode cX8_remember 33 = .ok (.iinc 2 1, 3) := by decide +kernel
