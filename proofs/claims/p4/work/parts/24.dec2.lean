theorem dX7_chance_8 : decode cX7_chance 8 = .ok (.iconst 0, 1) := by decide +kernel
theorem dX7_chance_9 : decode cX7_chance 9 = .ok (.istore 6, 2) := by decide +kernel
theorem dX7_chance_11 : decode cX7_chance 11 = .ok (.iload 6, 2) := by decide +kernel
theorem dX7_chance_13 : decode cX7_chance 13 = .ok (.iload_n 1, 1) := by decide +kernel
theorem dX7_chance_14 : decode cX7_chance 14 = .ok (.if_icmp .gt 60, 3) := by decide +kernel
theorem dX7_chance_17 : decode cX7_chance 17 = .ok (.iload 6, 2) := by decide +kernel
theorem dX7_chance_19 : decode cX7_chance 19 = .ok (.iload_n 1, 1) := by decide +kernel
theorem dX7_chance_20 : decode cX7_chance 20 = .ok (.iconst (-1), 1) := by decide +kernel
theorem dX7_chance_21 : decode cX7_chance 21 = .ok (.ixor, 1) := by decide +kernel
theorem dX7_chance_22 : decode cX7_chance 22 = .ok (.iand, 1) := by decide +kernel
theorem dX7_chance_23 : decode cX7_chance 23 = .ok (.ifCond .ne 45, 3) := by decide +kernel
theorem dX7_chance_26 : decode cX7_chance 26 = .ok (.aload_n 0, 1) := by decide +kernel
theorem dX7_chance_27 : decode cX7_chance 27 = .ok (.getfield 54, 3) := by decide +kernel
theorem dX7_chance_30 : decode cX7_chance 30 = .ok (.iload 6, 2) := by decide +kernel
theorem dX7_chance_32 : decode cX7_chance 32 = .ok (.invokevirtual 446, 3) := by decide +kernel
theorem dX7_chance_35 : decode cX7_chance 35 = .ok (.ifCond .ne 33, 3) := by decide +kernel
theorem dX7_chance_38 : decode cX7_chance 38 = .ok (.iload 6, 2) := by decide +kernel
theorem dX7_chance_40 : decode cX7_chance 40 = .ok (.invokestatic 193, 3) := by decide +kernel
theorem dX7_chance_43 : decode cX7_chance 43 = .ok (.istore 7, 2) := by decide +kernel
theorem dX7_chance_45 : decode cX7_chance 45 = .ok (.lload 4, 2) := by decide +kernel
theorem dX7_chance_47 : decode cX7_chance 47 = .ok (.bipush 10, 2) := by decide +kernel
theorem dX7_chance_49 : decode cX7_chance 49 = .ok (.iload_n 2, 1) := by decide +kernel
theorem dX7_chance_50 : decode cX7_chance 50 = .ok (.isub, 1) := by decide +kernel
theorem dX7_chance_51 : decode cX7_chance 51 = .ok (.iload 7, 2) := by decide +kernel
theorem dX7_chance_53 : decode cX7_chance 53 = .ok (.invokestatic 374, 3) := by decide +kernel
theorem dX7_chance_56 : decode cX7_chance 56 = .ok (.iload_n 2, 1) := by decide +kernel
theorem dX7_chance_57 : decode cX7_chance 57 = .ok (.iload_n 3, 1) := by decide +kernel
theorem dX7_chance_58 : decode cX7_chance 58 = .ok (.iload 7, 2) := by decide +kernel
theorem dX7_chance_60 : decode cX7_chance 60 = .ok (.isub, 1) := by decide +kernel
theorem dX7_chance_61 : decode cX7_chance 61 = .ok (.invokestatic 374, 3) := by decide +kernel
theorem dX7_chance_64 : decode cX7_chance 64 = .ok (.lmul, 1) := by decide +kernel
theorem dX7_chance_65 : decode cX7_chance 65 = .ok (.ladd, 1) := by decide +kernel
theorem dX7_chance_66 : decode cX7_chance 66 = .ok (.lstore 4, 2) := by decide +kernel
theorem dX7_chance_68 : decode cX7_chance 68 = .ok (.iinc 6 1, 3) := by decide +kernel
theorem dX7_chance_71 : decode cX7_chance 71 = .ok (.goto (-60), 3) := by decide +kernel
theorem dX7_chance_74 : decode cX7_chance 74 = .ok (.lload 4, 2) := by decide +kernel
theorem dX7_chance_76 : decode cX7_chance 76 = .ok (.lreturn, 1) := by decide +kernel
theorem dX7_changes_0 : decode cX7_changes 0 = .ok (.iconst 0, 1) := by decide +kernel
theorem dX7_changes_1 : decode cX7_changes 1 = .ok (.istore_n 1, 1) := by decide +kernel
theorem dX7_changes_2 : decode cX7_changes 2 = .ok (.iconst 0, 1) := by decide +kernel
theorem dX7_changes_3 : decode cX7_changes 3 = .ok (.istore_n 2, 1) := by decide +kernel
theorem dX7_changes_4 : decode cX7_changes 4 = .ok (.iconst 0, 1) := by decide +kernel
theorem dX7_changes_5 : decode cX7_changes 5 = .ok (.istore_n 3, 1) := by decide +kernel
theorem dX7_changes_6 : decode cX7_changes 6 = .ok (.iconst 1, 1) := by decide +kernel
theorem dX7_changes_7 : decode cX7_changes 7 = .ok (.istore 4, 2) := by decide +kernel
theorem dX7_changes_9 : decode cX7_changes 9 = .ok (.iload 4, 2) := by decide +kernel
theorem dX7_changes_11 : decode cX7_changes 11 = .ok (.bipush 8, 2) := by decide +kernel
theorem dX7_changes_13 : decode cX7_changes 13 = .ok (.if_icmp .ge 90, 3) := by decide +kernel
theorem dX7_changes_16 : decode cX7_changes 16 = .ok (.aload_n 0, 1) := by decide +kernel
theorem dX7_changes_17 : decode cX7_changes 17 = .ok (.getfield 26, 3) := by decide +kernel
theorem dX7_changes_20 : decode cX7_changes 20 = .ok (.getfield 183, 3) := by decide +kernel
theorem dX7_changes_23 : decode cX7_changes 23 = .ok (.iload 4, 2) := by decide +kernel
theorem dX7_changes_25 : decode cX7_changes 25 = .ok (.iconst 1, 1) := by decide +kernel
theorem dX7_changes_26 : decode cX7_changes 26 = .ok (.isub, 1) := by decide +kernel
theorem dX7_changes_27 : decode cX7_changes 27 = .ok (.iaload, 1) := by decide +kernel
theorem dX7_changes_28 : decode cX7_changes 28 = .ok (.istore 5, 2) := by decide +kernel
theorem dX7_changes_30 : decode cX7_changes 30 = .ok (.aload_n 0, 1) := by decide +kernel
theorem dX7_changes_31 : decode cX7_changes 31 = .ok (.getfield 26, 3) := by decide +kernel
theorem dX7_changes_34 : decode cX7_changes 34 = .ok (.getfield 183, 3) := by decide +kernel
theorem dX7_changes_37 : decode cX7_changes 37 = .ok (.iload 4, 2) := by decide +kernel
theorem dX7_changes_39 : decode cX7_changes 39 = .ok (.iaload, 1) := by decide +kernel
theorem dX7_changes_40 : decode cX7_changes 40 = .ok (.istore 6, 2) := by decide +kernel
theorem dX7_changes_42 : decode cX7_changes 42 = .ok (.aload_n 0, 1) := by decide +kernel
theorem dX7_changes_43 : decode cX7_changes 43 = .ok (.getfield 19, 3) := by decide +kernel
theorem dX7_changes_46 : decode cX7_changes 46 = .ok (.iload 5, 2) := by decide +kernel
theorem dX7_changes_48 : decode cX7_changes 48 = .ok (.iload 6, 2) := by decide +kernel
theorem dX7_changes_50 : decode cX7_changes 50 = .ok (.invokevirtual 328, 3) := by decide +kernel
theorem dX7_changes_53 : decode cX7_changes 53 = .ok (.ifCond .eq 44, 3) := by decide +kernel
theorem dX7_changes_56 : decode cX7_changes 56 = .ok (.aload_n 0, 1) := by decide +kernel
theorem dX7_changes_57 : decode cX7_changes 57 = .ok (.getfield 19, 3) := by decide +kernel
theorem dX7_changes_60 : decode cX7_changes 60 = .ok (.iload 5, 2) := by decide +kernel
theorem dX7_changes_62 : decode cX7_changes 62 = .ok (.iload 6, 2) := by decide +kernel
theorem dX7_changes_64 : decode cX7_changes 64 = .ok (.invokevirtual 336, 3) := by decide +kernel
theorem dX7_changes_67 : decode cX7_changes 67 = .ok (.istore 7, 2) := by decide +kernel
theorem dX7_changes_69 : decode cX7_changes 69 = .ok (.iinc 1 1, 3) := by decide +kernel
theorem dX7_changes_72 : decode cX7_changes 72 = .ok (.iload_n 2, 1) := by decide +kernel
theorem dX7_changes_73 : decode cX7_changes 73 = .ok (.iload 7, 2) := by decide +kernel
theorem dX7_changes_75 : decode cX7_changes 75 = .ok (.aload_n 0, 1) := by decide +kernel
theorem dX7_changes_76 : decode cX7_changes 76 = .ok (.getfield 19, 3) := by decide +kernel
theorem dX7_changes_79 : decode cX7_changes 79 = .ok (.getfield 145, 3) := by decide +kernel
theorem dX7_changes_82 : decode cX7_changes 82 = .ok (.if_icmp .le 7, 3) := by decide +kernel
theorem dX7_changes_85 : decode cX7_changes 85 = .ok (.iconst 1, 1) := by decide +kernel
theorem dX7_changes_86 : decode cX7_changes 86 = .ok (.goto 4, 3) := by decide +kernel
theorem dX7_changes_89 : decode cX7_changes 89 = .ok (.iconst 0, 1) := by decide +kernel
theorem dX7_changes_90 : decode cX7_changes 90 = .ok (.iadd, 1) := by decide +kernel
theorem dX7_changes_91 : decode cX7_changes 91 = .ok (.istore_n 2, 1) := by decide +kernel
theorem dX7_changes_92 : decode cX7_changes 92 = .ok (.iload_n 3, 1) := by decide +kernel
theorem dX7_changes_93 : decode cX7_changes 93 = .ok (.iload 7, 2) := by decide +kernel
theorem dX7_changes_95 : decode cX7_changes 95 = .ok (.iadd, 1) := by decide +kernel
theorem dX7_changes_96 : decode cX7_changes 96 = .ok (.istore_n 3, 1) := by decide +kernel
theorem dX7_changes_97 : decode cX7_changes 97 = .ok (.iinc 4 1, 3) := by decide +kernel
theorem dX7_changes_100 : decode cX7_changes 100 = .ok (.goto (-91), 3) := by decide +kernel
theorem dX7_changes_103 : decode cX7_changes 103 = .ok (.aload_n 0, 1) := by decide +kernel
theorem dX7_changes_104 : decode cX7_changes 104 = .ok (.getfield 61, 3) := by decide +kernel
theorem dX7_changes_107 : decode cX7_changes 107 = .ok (.iload_n 2, 1) := by decide +kernel
theorem dX7_changes_108 : decode cX7_changes 108 = .ok (.i2l, 1) := by decide +kernel
theorem dX7_changes_109 : decode cX7_changes 109 = .ok (.iload_n 3, 1) := by decide +kernel
theorem dX7_changes_110 : decode cX7_changes 110 = .ok (.i2l, 1) := by decide +kernel
theorem dX7_changes_111 : decode cX7_changes 111 = .ok (.invokevirtual 208, 3) := by decide +kernel
theorem dX7_changes_114 : decode cX7_changes 114 = .ok (.iload_n 1, 1) := by decide +kernel
theorem dX7_changes_115 : decode cX7_changes 115 = .ok (.ireturn, 1) := by decide +kernel
theorem dX7_count_0 : decode cX7_count 0 = .ok (.iload_n 1, 1) := by decide +kernel
theorem dX7_count_1 : decode cX7_count 1 = .ok (.bipush 20, 2) := by decide +kernel
theorem dX7_count_3 : decode cX7_count 3 = .ok (.if_icmp .lt 22, 3) := by decide +kernel
theorem dX7_count_6 : decode cX7_count 6 = .ok (.iload_n 1, 1) := by decide +kernel
theorem dX7_count_7 : decode cX7_count 7 = .ok (.bipush 28, 2) := by decide +kernel
theorem dX7_count_9 : decode cX7_count 9 = .ok (.if_icmp .ge 16, 3) := by decide +kernel
theorem dX7_count_12 : decode cX7_count 12 = .ok (.aload_n 0, 1) := by decide +kernel
theorem dX7_count_13 : decode cX7_count 13 = .ok (.getfield 26, 3) := by decide +kernel
theorem dX7_count_16 : decode cX7_count 16 = .ok (.getfield 183, 3) := by decide +kernel
theorem dX7_count_19 : decode cX7_count 19 = .ok (.iload_n 1, 1) := by decide +kernel
theorem dX7_count_20 : decode cX7_count 20 = .ok (.bipush 20, 2) := by decide +kernel
theorem dX7_count_22 : decode cX7_count 22 = .ok (.isub, 1) := by decide +kernel
theorem dX7_count_23 : decode cX7_count 23 = .ok (.iaload, 1) := by decide +kernel
theorem dX7_count_24 : decode cX7_count 24 = .ok (.ireturn, 1) := by decide +kernel
theorem dX7_count_25 : decode cX7_count 25 = .ok (.iload_n 1, 1) := by decide +kernel
theorem dX7_count_26 : decode cX7_count 26 = .ok (.tableswitch 155 0 11 #[62, 70, 78, 86, 94, 102, 110, 118, 126, 131, 139, 147], 62) := by decide +kernel
theorem dX7_count_88 : decode cX7_count 88 = .ok (.aload_n 0, 1) := by decide +kernel
theorem dX7_count_89 : decode cX7_count 89 = .ok (.getfield 19, 3) := by decide +kernel
theorem dX7_count_92 : decode cX7_count 92 = .ok (.getfield 141, 3) := by decide +kernel
theorem dX7_count_95 : decode cX7_count 95 = .ok (.ireturn, 1) := by decide +kernel
theorem dX7_count_96 : decode cX7_count 96 = .ok (.aload_n 0, 1) := by decide +kernel
theorem dX7_count_97 : decode cX7_count 97 = .ok (.getfield 19, 3) := by decide +kernel
theorem dX7_count_100 : decode cX7_count 100 = .ok (.getfield 145, 3) := by decide +kernel
theorem dX7_count_103 : decode cX7_count 103 = .ok (.ireturn, 1) := by decide +kernel
theorem dX7_count_104 : decode cX7_count 104 = .ok (.aload_n 0, 1) := by decide +kernel
theorem dX7_count_105 : decode cX7_count 105 = .ok (.getfield 19, 3) := by decide +kernel
theorem dX7_count_108 : decode cX7_count 108 = .ok (.getfield 154, 3) := by decide +kernel
theorem dX7_count_111 : decode cX7_count 111 = .ok (.ireturn, 1) := by decide +kernel
theorem dX7_count_112 : decode cX7_count 112 = .ok (.aload_n 0, 1) := by decide +kernel
theorem dX7_count_113 : decode cX7_count 113 = .ok (.getfield 26, 3) := by decide +kernel
theorem dX7_count_116 : decode cX7_count 116 = .ok (.getfield 190, 3) := by decide +kernel
theorem dX7_count_119 : decode cX7_count 119 = .ok (.ireturn, 1) := by decide +kernel
theorem dX7_count_120 : decode cX7_count 120 = .ok (.aload_n 0, 1) := by decide +kernel
theorem dX7_count_121 : decode cX7_count 121 = .ok (.getfield 26, 3) := by decide +kernel
theorem dX7_count_124 : decode cX7_count 124 = .ok (.getfield 391, 3) := by decide +kernel
theorem dX7_count_127 : decode cX7_count 127 = .ok (.ireturn, 1) := by decide +kernel
theorem dX7_count_128 : decode cX7_count 128 = .ok (.aload_n 0, 1) := by decide +kernel
theorem dX7_count_129 : decode cX7_count 129 = .ok (.getfield 26, 3) := by decide +kernel
theorem dX7_count_132 : decode cX7_count 132 = .ok (.getfield 198, 3) := by decide +kernel
theorem dX7_count_135 : decode cX7_count 135 = .ok (.ireturn, 1) := by decide +kernel
theorem dX7_count_136 : decode cX7_count 136 = .ok (.aload_n 0, 1) := by decide +kernel
theorem dX7_count_137 : decode cX7_count 137 = .ok (.getfield 26, 3) := by decide +kernel
theorem dX7_count_140 : decode cX7_count 140 = .ok (.getfield 201, 3) := by decide +kernel
theorem dX7_count_143 : decode cX7_count 143 = .ok (.ireturn, 1) := by decide +kernel
theorem dX7_count_144 : decode cX7_count 144 = .ok (.aload_n 0, 1) := by decide +kernel
theorem dX7_count_145 : decode cX7_count 145 = .ok (.getfield 26, 3) := by decide +kernel
theorem dX7_count_148 : decode cX7_count 148 = .ok (.invokevirtual 164, 3) := by decide +kernel
theorem dX7_count_151 : decode cX7_count 151 = .ok (.ireturn, 1) := by decide +kernel
theorem dX7_count_152 : decode cX7_count 152 = .ok (.aload_n 0, 1) := by decide +kernel
theorem dX7_count_153 : decode cX7_count 153 = .ok (.getfield 345, 3) := by decide +kernel
theorem dX7_count_156 : decode cX7_count 156 = .ok (.ireturn, 1) := by decide +kernel
theorem dX7_count_157 : decode cX7_count 157 = .ok (.aload_n 0, 1) := by decide +kernel
theorem dX7_count_158 : decode cX7_count 158 = .ok (.getfield 39, 3) := by decide +kernel
theorem dX7_count_161 : decode cX7_count 161 = .ok (.getfield 394, 3) := by decide +kernel
theorem dX7_count_164 : decode cX7_count 164 = .ok (.ireturn, 1) := by decide +kernel
theorem dX7_count_165 : decode cX7_count 165 = .ok (.aload_n 0, 1) := by decide +kernel
theorem dX7_count_166 : decode cX7_count 166 = .ok (.getfield 61, 3) := by decide +kernel
theorem dX7_count_169 : decode cX7_count 169 = .ok (.getfield 397, 3) := by decide +kernel
theorem dX7_count_172 : decode cX7_count 172 = .ok (.ireturn, 1) := by decide +kernel
theorem dX7_count_173 : decode cX7_count 173 = .ok (.aload_n 0, 1) := by decide +kernel
theorem dX7_count_174 : decode cX7_count 174 = .ok (.getfield 10, 3) := by decide +kernel
theorem dX7_count_177 : decode cX7_count 177 = .ok (.getfield 215, 3) := by decide +kernel
theorem dX7_count_180 : decode cX7_count 180 = .ok (.ireturn, 1) := by decide +kernel
theorem dX7_count_181 : decode cX7_count 181 = .ok (.bipush (-100), 2) := by decide +kernel
theorem dX7_count_183 : decode cX7_count 183 = .ok (.ireturn, 1) := by decide +kernel
theorem dX7_draw_0 : decode cX7_draw 0 = .ok (.aload_n 0, 1) := by decide +kernel
theorem dX7_draw_1 : decode cX7_draw 1 = .ok (.aload_n 0, 1) := by decide +kernel
theorem dX7_draw_2 : decode cX7_draw 2 = .ok (.getfield 385, 3) := by decide +kernel
theorem dX7_draw_5 : decode cX7_draw 5 = .ok (.ldc_w 426, 3) := by decide +kernel
theorem dX7_draw_8 : decode cX7_draw 8 = .ok (.imul, 1) := by decide +kernel
theorem dX7_draw_9 : decode cX7_draw 9 = .ok (.sipush 12345, 3) := by decide +kernel
theorem dX7_draw_12 : decode cX7_draw 12 = .ok (.iadd, 1) := by decide +kernel
theorem dX7_draw_13 : decode cX7_draw 13 = .ok (.putfield 385, 3) := by decide +kernel
theorem dX7_draw_16 : decode cX7_draw 16 = .ok (.iload_n 1, 1) := by decide +kernel
theorem dX7_draw_17 : decode cX7_draw 17 = .ok (.ifCond .le 15, 3) := by decide +kernel
theorem dX7_draw_20 : decode cX7_draw 20 = .ok (.aload_n 0, 1) := by decide +kernel
theorem dX7_draw_21 : decode cX7_draw 21 = .ok (.getfield 385, 3) := by decide +kernel
theorem dX7_draw_24 : decode cX7_draw 24 = .ok (.bipush 16, 2) := by decide +kernel
theorem dX7_draw_26 : decode cX7_draw 26 = .ok (.iushr, 1) := by decide +kernel
theorem dX7_draw_27 : decode cX7_draw 27 = .ok (.iload_n 1, 1) := by decide +kernel
theorem dX7_draw_28 : decode cX7_draw 28 = .ok (.irem, 1) := by decide +kernel
theorem dX7_draw_29 : decode cX7_draw 29 = .ok (.goto 4, 3) := by decide +kernel
theorem dX7_draw_32 : decode cX7_draw 32 = .ok (.iconst 0, 1) := by decide +kernel
theorem dX7_draw_33 : decode cX7_draw 33 = .ok (.ireturn, 1) := by decide +kernel
theorem dX7_drawAct_0 : decode cX7_drawAct 0 = .ok (.aload_n 0, 1) := by decide +kernel
theorem dX7_drawAct_1 : decode cX7_drawAct 1 = .ok (.iconst 4, 1) := by decide +kernel
theorem dX7_drawAct_2 : decode cX7_drawAct 2 = .ok (.invokevirtual 427, 3) := by decide +kernel
theorem dX7_drawAct_5 : decode cX7_drawAct 5 = .ok (.istore_n 1, 1) := by decide +kernel
theorem dX7_drawAct_6 : decode cX7_drawAct 6 = .ok (.iload_n 1, 1) := by decide +kernel
theorem dX7_drawAct_7 : decode cX7_drawAct 7 = .ok (.iconst 2, 1) := by decide +kernel
theorem dX7_drawAct_8 : decode cX7_drawAct 8 = .ok (.if_icmp .ge 17, 3) := by decide +kernel
theorem dX7_drawAct_11 : decode cX7_drawAct 11 = .ok (.aload_n 0, 1) := by decide +kernel
theorem dX7_drawAct_12 : decode cX7_drawAct 12 = .ok (.getfield 19, 3) := by decide +kernel
theorem dX7_drawAct_15 : decode cX7_drawAct 15 = .ok (.aload_n 0, 1) := by decide +kernel
theorem dX7_drawAct_16 : decode cX7_drawAct 16 = .ok (.getfield 33, 3) := by decide +kernel
theorem dX7_drawAct_19 : decode cX7_drawAct 19 = .ok (.invokevirtual 241, 3) := by decide +kernel
theorem dX7_drawAct_22 : decode cX7_drawAct 22 = .ok (.goto 76, 3) := by decide +kernel
theorem dX7_drawAct_25 : decode cX7_drawAct 25 = .ok (.aload_n 0, 1) := by decide +kernel
theorem dX7_drawAct_26 : decode cX7_drawAct 26 = .ok (.getfield 19, 3) := by decide +kernel
theorem dX7_drawAct_29 : decode cX7_drawAct 29 = .ok (.getfield 154, 3) := by decide +kernel
theorem dX7_drawAct_32 : decode cX7_drawAct 32 = .ok (.ifCond .le 29, 3) := by decide +kernel
theorem dX7_drawAct_35 : decode cX7_drawAct 35 = .ok (.iload_n 1, 1) := by decide +kernel
theorem dX7_drawAct_36 : decode cX7_drawAct 36 = .ok (.iconst 2, 1) := by decide +kernel
theorem dX7_drawAct_37 : decode cX7_drawAct 37 = .ok (.if_icmp .ne 24, 3) := by decide +kernel
theorem dX7_drawAct_40 : decode cX7_drawAct 40 = .ok (.aload_n 0, 1) := by decide +kernel
theorem dX7_drawAct_41 : decode cX7_drawAct 41 = .ok (.getfield 33, 3) := by decide +kernel
theorem dX7_drawAct_44 : decode cX7_drawAct 44 = .ok (.aload_n 0, 1) := by decide +kernel
theorem dX7_drawAct_45 : decode cX7_drawAct 45 = .ok (.aload_n 0, 1) := by decide +kernel
theorem dX7_drawAct_46 : decode cX7_drawAct 46 = .ok (.getfield 19, 3) := by decide +kernel
theorem dX7_drawAct_49 : decode cX7_drawAct 49 = .ok (.getfield 154, 3) := by decide +kernel
theorem dX7_drawAct_52 : decode cX7_drawAct 52 = .ok (.invokevirtual 427, 3) := by decide +kernel
theorem dX7_drawAct_55 : decode cX7_drawAct 55 = .ok (.invokevirtual 186, 3) := by decide +kernel
theorem dX7_drawAct_58 : decode cX7_drawAct 58 = .ok (.goto 40, 3) := by decide +kernel
theorem dX7_drawAct_61 : decode cX7_drawAct 61 = .ok (.aload_n 0, 1) := by decide +kernel
theorem dX7_drawAct_62 : decode cX7_drawAct 62 = .ok (.getfield 19, 3) := by decide +kernel
theorem dX7_drawAct_65 : decode cX7_drawAct 65 = .ok (.getfield 154, 3) := by decide +kernel
theorem dX7_drawAct_68 : decode cX7_drawAct 68 = .ok (.ifCond .le 30, 3) := by decide +kernel
theorem dX7_drawAct_71 : decode cX7_drawAct 71 = .ok (.aload_n 0, 1) := by decide +kernel
theorem dX7_drawAct_72 : decode cX7_drawAct 72 = .ok (.bipush 8, 2) := by decide +kernel
theorem dX7_drawAct_74 : decode cX7_drawAct 74 = .ok (.invokevirtual 427, 3) := by decide +kernel
theorem dX7_drawAct_77 : decode cX7_drawAct 77 = .ok (.istore_n 2, 1) := by decide +kernel
theorem dX7_drawAct_78 : decode cX7_drawAct 78 = .ok (.aload_n 0, 1) := by decide +kernel
theorem dX7_drawAct_79 : decode cX7_drawAct 79 = .ok (.getfield 33, 3) := by decide +kernel
theorem dX7_drawAct_82 : decode cX7_drawAct 82 = .ok (.getfield 183, 3) := by decide +kernel
theorem dX7_drawAct_85 : decode cX7_drawAct 85 = .ok (.iload_n 2, 1) := by decide +kernel
theorem dX7_drawAct_86 : decode cX7_drawAct 86 = .ok (.aload_n 0, 1) := by decide +kernel
theorem dX7_drawAct_87 : decode cX7_drawAct 87 = .ok (.aload_n 0, 1) := by decide +kernel
theorem dX7_drawAct_88 : decode cX7_drawAct 88 = .ok (.getfield 19, 3) := by decide +kernel
theorem dX7_drawAct_91 : decode cX7_drawAct 91 = .ok (.getfield 154, 3) := by decide +kernel
theorem dX7_drawAct_94 : decode cX7_drawAct 94 = .ok (.invokevirtual 427, 3) := by decide +kernel
theorem dX7_drawAct_97 : decode cX7_drawAct 97 = .ok (.iastore, 1) := by decide +kernel
theorem dX7_drawAct_98 : decode cX7_drawAct 98 = .ok (.return_, 1) := by decide +kernel
theorem dX7_easiest_0 : decode cX7_easiest 0 = .ok (.aload_n 0, 1) := by decide +kernel
theorem dX7_easiest_1 : decode cX7_easiest 1 = .ok (.iconst (-1), 1) := by decide +kernel
theorem dX7_easiest_2 : decode cX7_easiest 2 = .ok (.invokevirtual 258, 3) := by decide +kernel
theorem dX7_easiest_5 : decode cX7_easiest 5 = .ok (.lstore_n 1, 1) := by decide +kernel
theorem dX7_easiest_6 : decode cX7_easiest 6 = .ok (.lload_n 1, 1) := by decide +kernel
theorem dX7_easiest_7 : decode cX7_easiest 7 = .ok (.ldc2_w 262, 3) := by decide +kernel
theorem dX7_easiest_10 : decode cX7_easiest 10 = .ok (.lcmp, 1) := by decide +kernel
theorem dX7_easiest_11 : decode cX7_easiest 11 = .ok (.ifCond .lt 8, 3) := by decide +kernel
theorem dX7_easiest_14 : decode cX7_easiest 14 = .ok (.bipush (-2), 2) := by decide +kernel
theorem dX7_easiest_16 : decode cX7_easiest 16 = .ok (.goto 8, 3) := by decide +kernel
theorem dX7_easiest_19 : decode cX7_easiest 19 = .ok (.aload_n 0, 1) := by decide +kernel
theorem dX7_easiest_20 : decode cX7_easiest 20 = .ok (.lload_n 1, 1) := by decide +kernel
theorem dX7_easiest_21 : decode cX7_easiest 21 = .ok (.invokevirtual 264, 3) := by decide +kernel
theorem dX7_easiest_24 : decode cX7_easiest 24 = .ok (.ireturn, 1) := by decide +kernel
theorem dX7_easiestWithout_0 : decode cX7_easiestWithout 0 = .ok (.aload_n 0, 1) := by decide +kernel
theorem dX7_easiestWithout_1 : decode cX7_easiestWithout 1 = .ok (.iload_n 1, 1) := by decide +kernel
theorem dX7_easiestWithout_2 : decode cX7_easiestWithout 2 = .ok (.invokevirtual 268, 3) := by decide +kernel
theorem dX7_easiestWithout_5 : decode cX7_easiestWithout 5 = .ok (.aload_n 0, 1) := by decide +kernel
theorem dX7_easiestWithout_6 : decode cX7_easiestWithout 6 = .ok (.invokevirtual 443, 3) := by decide +kernel
theorem dX7_easiestWithout_9 : decode cX7_easiestWithout 9 = .ok (.aload_n 0, 1) := by decide +kernel
theorem dX7_easiestWithout_10 : decode cX7_easiestWithout 10 = .ok (.getfield 54, 3) := by decide +kernel
theorem dX7_easiestWithout_13 : decode cX7_easiestWithout 13 = .ok (.invokevirtual 275, 3) := by decide +kernel
theorem dX7_easiestWithout_16 : decode cX7_easiestWithout 16 = .ok (.lreturn, 1) := by decide +kernel
theorem dX7_end_0 : decode cX7_end 0 = .ok (.aload_n 0, 1) := by decide +kernel
theorem dX7_end_1 : decode cX7_end 1 = .ok (.getfield 10, 3) := by decide +kernel
theorem dX7_end_4 : decode cX7_end 4 = .ok (.iload_n 1, 1) := by decide +kernel
theorem dX7_end_5 : decode cX7_end 5 = .ok (.invokevirtual 86, 3) := by decide +kernel
theorem dX7_end_8 : decode cX7_end 8 = .ok (.ireturn, 1) := by decide +kernel
theorem dX7_entry_0 : decode cX7_entry 0 = .ok (.iload_n 0, 1) := by decide +kernel
theorem dX7_entry_1 : decode cX7_entry 1 = .ok (.ifCond .ne 6, 3) := by decide +kernel
theorem dX7_entry_4 : decode cX7_entry 4 = .ok (.iload_n 1, 1) := by decide +kernel
theorem dX7_entry_5 : decode cX7_entry 5 = .ok (.i2b, 1) := by decide +kernel
theorem dX7_entry_6 : decode cX7_entry 6 = .ok (.ireturn, 1) := by decide +kernel
theorem dX7_entry_7 : decode cX7_entry 7 = .ok (.iload_n 0, 1) := by decide +kernel
theorem dX7_entry_8 : decode cX7_entry 8 = .ok (.iconst 1, 1) := by decide +kernel
theorem dX7_entry_9 : decode cX7_entry 9 = .ok (.if_icmp .ne 8, 3) := by decide +kernel
theorem dX7_entry_12 : decode cX7_entry 12 = .ok (.iload_n 1, 1) := by decide +kernel
theorem dX7_entry_13 : decode cX7_entry 13 = .ok (.i2s, 1) := by decide +kernel
theorem dX7_entry_14 : decode cX7_entry 14 = .ok (.goto 4, 3) := by decide +kernel
theorem dX7_entry_17 : decode cX7_entry 17 = .ok (.iload_n 1, 1) := by decide +kernel
theorem dX7_entry_18 : decode cX7_entry 18 = .ok (.ireturn, 1) := by decide +kernel
theorem dX7_fairest_0 : decode cX7_fairest 0 = .ok (.aload_n 0, 1) := by decide +kernel
theorem dX7_fairest_1 : decode cX7_fairest 1 = .ok (.iconst (-1), 1) := by decide +kernel
theorem dX7_fairest_2 : decode cX7_fairest 2 = .ok (.invokevirtual 268, 3) := by decide +kernel
theorem dX7_fairest_5 : decode cX7_fairest 5 = .ok (.iconst 0, 1) := by decide +kernel
theorem dX7_fairest_6 : decode cX7_fairest 6 = .ok (.istore_n 1, 1) := by decide +kernel
theorem dX7_fairest_7 : decode cX7_fairest 7 = .ok (.iload_n 1, 1) := by decide +kernel
theorem dX7_fairest_8 : decode cX7_fairest 8 = .ok (.aload_n 0, 1) := by decide +kernel
theorem dX7_fairest_9 : decode cX7_fairest 9 = .ok (.getfield 19, 3) := by decide +kernel
theorem dX7_fairest_12 : decode cX7_fairest 12 = .ok (.getfield 154, 3) := by decide +kernel
theorem dX7_fairest_15 : decode cX7_fairest 15 = .ok (.if_icmp .ge 44, 3) := by decide +kernel
theorem dX7_fairest_18 : decode cX7_fairest 18 = .ok (.iconst 0, 1) := by decide +kernel
theorem dX7_fairest_19 : decode cX7_fairest 19 = .ok (.istore_n 2, 1) := by decide +kernel
theorem dX7_fairest_20 : decode cX7_fairest 20 = .ok (.iload_n 2, 1) := by decide +kernel
theorem dX7_fairest_21 : decode cX7_fairest 21 = .ok (.aload_n 0, 1) := by decide +kernel
theorem dX7_fairest_22 : decode cX7_fairest 22 = .ok (.getfield 19, 3) := by decide +kernel
theorem dX7_fairest_25 : decode cX7_fairest 25 = .ok (.getfield 141, 3) := by decide +kernel
theorem dX7_fairest_28 : decode cX7_fairest 28 = .ok (.if_icmp .ge 25, 3) := by decide +kernel
theorem dX7_fairest_31 : decode cX7_fairest 31 = .ok (.aload_n 0, 1) := by decide +kernel
theorem dX7_fairest_32 : decode cX7_fairest 32 = .ok (.getfield 54, 3) := by decide +kernel
theorem dX7_fairest_35 : decode cX7_fairest 35 = .ok (.iload_n 1, 1) := by decide +kernel
theorem dX7_fairest_36 : decode cX7_fairest 36 = .ok (.iload_n 2, 1) := by decide +kernel
theorem dX7_fairest_37 : decode cX7_fairest 37 = .ok (.aload_n 0, 1) := by decide +kernel
theorem dX7_fairest_38 : decode cX7_fairest 38 = .ok (.iload_n 1, 1) := by decide +kernel
theorem dX7_fairest_39 : decode cX7_fairest 39 = .ok (.iload_n 2, 1) := by decide +kernel
theorem dX7_fairest_40 : decode cX7_fairest 40 = .ok (.invokevirtual 137, 3) := by decide +kernel
theorem dX7_fairest_43 : decode cX7_fairest 43 = .ok (.i2l, 1) := by decide +kernel
theorem dX7_fairest_44 : decode cX7_fairest 44 = .ok (.invokevirtual 300, 3) := by decide +kernel
theorem dX7_fairest_47 : decode cX7_fairest 47 = .ok (.iinc 2 1, 3) := by decide +kernel
theorem dX7_fairest_50 : decode cX7_fairest 50 = .ok (.goto (-30), 3) := by decide +kernel
theorem dX7_fairest_53 : decode cX7_fairest 53 = .ok (.iinc 1 1, 3) := by decide +kernel
theorem dX7_fairest_56 : decode cX7_fairest 56 = .ok (.goto (-49), 3) := by decide +kernel
theorem dX7_fairest_59 : decode cX7_fairest 59 = .ok (.aload_n 0, 1) := by decide +kernel
theorem dX7_fairest_60 : decode cX7_fairest 60 = .ok (.getfield 54, 3) := by decide +kernel
theorem dX7_fairest_63 : decode cX7_fairest 63 = .ok (.invokevirtual 304, 3) := by decide +kernel
theorem dX7_fairest_66 : decode cX7_fairest 66 = .ok (.lstore_n 1, 1) := by decide +kernel
theorem dX7_fairest_67 : decode cX7_fairest 67 = .ok (.lload_n 1, 1) := by decide +kernel
theorem dX7_fairest_68 : decode cX7_fairest 68 = .ok (.ldc2_w 262, 3) := by decide +kernel
theorem dX7_fairest_71 : decode cX7_fairest 71 = .ok (.lcmp, 1) := by decide +kernel
theorem dX7_fairest_72 : decode cX7_fairest 72 = .ok (.ifCond .lt 6, 3) := by decide +kernel
theorem dX7_fairest_75 : decode cX7_fairest 75 = .ok (.bipush (-2), 2) := by decide +kernel
theorem dX7_fairest_77 : decode cX7_fairest 77 = .ok (.ireturn, 1) := by decide +kernel
theorem dX7_fairest_78 : decode cX7_fairest 78 = .ok (.aload_n 0, 1) := by decide +kernel
theorem dX7_fairest_79 : decode cX7_fairest 79 = .ok (.getfield 54, 3) := by decide +kernel
theorem dX7_fairest_82 : decode cX7_fairest 82 = .ok (.lload_n 1, 1) := by decide +kernel
theorem dX7_fairest_83 : decode cX7_fairest 83 = .ok (.putfield 307, 3) := by decide +kernel
theorem dX7_fairest_86 : decode cX7_fairest 86 = .ok (.aload_n 0, 1) := by decide +kernel
theorem dX7_fairest_87 : decode cX7_fairest 87 = .ok (.getfield 61, 3) := by decide +kernel
theorem dX7_fairest_90 : decode cX7_fairest 90 = .ok (.aload_n 0, 1) := by decide +kernel
theorem dX7_fairest_91 : decode cX7_fairest 91 = .ok (.getfield 54, 3) := by decide +kernel
theorem dX7_fairest_94 : decode cX7_fairest 94 = .ok (.invokevirtual 275, 3) := by decide +kernel
theorem dX7_fairest_97 : decode cX7_fairest 97 = .ok (.invokevirtual 247, 3) := by decide +kernel
theorem dX7_fairest_100 : decode cX7_fairest 100 = .ok (.lload_n 1, 1) := by decide +kernel
theorem dX7_fairest_101 : decode cX7_fairest 101 = .ok (.l2i, 1) := by decide +kernel
theorem dX7_fairest_102 : decode cX7_fairest 102 = .ok (.ireturn, 1) := by decide +kernel
theorem dX7_fewest_0 : decode cX7_fewest 0 = .ok (.aload_n 0, 1) := by decide +kernel
theorem dX7_fewest_1 : decode cX7_fewest 1 = .ok (.iconst (-1), 1) := by decide +kernel
theorem dX7_fewest_2 : decode cX7_fewest 2 = .ok (.invokevirtual 268, 3) := by decide +kernel
theorem dX7_fewest_5 : decode cX7_fewest 5 = .ok (.iconst 0, 1) := by decide +kernel
theorem dX7_fewest_6 : decode cX7_fewest 6 = .ok (.istore_n 1, 1) := by decide +kernel
theorem dX7_fewest_7 : decode cX7_fewest 7 = .ok (.iload_n 1, 1) := by decide +kernel
theorem dX7_fewest_8 : decode cX7_fewest 8 = .ok (.aload_n 0, 1) := by decide +kernel
theorem dX7_fewest_9 : decode cX7_fewest 9 = .ok (.getfield 19, 3) := by decide +kernel
theorem dX7_fewest_12 : decode cX7_fewest 12 = .ok (.getfield 154, 3) := by decide +kernel
theorem dX7_fewest_15 : decode cX7_fewest 15 = .ok (.if_icmp .ge 26, 3) := by decide +kernel
theorem dX7_fewest_18 : decode cX7_fewest 18 = .ok (.aload_n 0, 1) := by decide +kernel
theorem dX7_fewest_19 : decode cX7_fewest 19 = .ok (.getfield 54, 3) := by decide +kernel
theorem dX7_fewest_22 : decode cX7_fewest 22 = .ok (.getfield 271, 3) := by decide +kernel
theorem dX7_fewest_25 : decode cX7_fewest 25 = .ok (.iload_n 1, 1) := by decide +kernel
theorem dX7_fewest_26 : decode cX7_fewest 26 = .ok (.sipush 256, 3) := by decide +kernel
theorem dX7_fewest_29 : decode cX7_fewest 29 = .ok (.iconst 1, 1) := by decide +kernel
theorem dX7_fewest_30 : decode cX7_fewest 30 = .ok (.iload_n 1, 1) := by decide +kernel
theorem dX7_fewest_31 : decode cX7_fewest 31 = .ok (.ishl, 1) := by decide +kernel
theorem dX7_fewest_32 : decode cX7_fewest 32 = .ok (.iadd, 1) := by decide +kernel
theorem dX7_fewest_33 : decode cX7_fewest 33 = .ok (.i2l, 1) := by decide +kernel
theorem dX7_fewest_34 : decode cX7_fewest 34 = .ok (.lastore, 1) := by decide +kernel
theorem dX7_fewest_35 : decode cX7_fewest 35 = .ok (.iinc 1 1, 3) := by decide +kernel
theorem dX7_fewest_38 : decode cX7_fewest 38 = .ok (.goto (-31), 3) := by decide +kernel
theorem dX7_fewest_41 : decode cX7_fewest 41 = .ok (.aload_n 0, 1) := by decide +kernel
theorem dX7_fewest_42 : decode cX7_fewest 42 = .ok (.getfield 54, 3) := by decide +kernel
theorem dX7_fewest_45 : decode cX7_fewest 45 = .ok (.invokevirtual 275, 3) := by decide +kernel
theorem dX7_fewest_48 : decode cX7_fewest 48 = .ok (.lstore_n 1, 1) := by decide +kernel
theorem dX7_fewest_49 : decode cX7_fewest 49 = .ok (.lload_n 1, 1) := by decide +kernel
theorem dX7_fewest_50 : decode cX7_fewest 50 = .ok (.ldc2_w 262, 3) := by decide +kernel
theorem dX7_fewest_53 : decode cX7_fewest 53 = .ok (.lcmp, 1) := by decide +kernel
theorem dX7_fewest_54 : decode cX7_fewest 54 = .ok (.ifCond .lt 6, 3) := by decide +kernel
theorem dX7_fewest_57 : decode cX7_fewest 57 = .ok (.bipush (-2), 2) := by decide +kernel
theorem dX7_fewest_59 : decode cX7_fewest 59 = .ok (.ireturn, 1) := by decide +kernel
theorem dX7_fewest_60 : decode cX7_fewest 60 = .ok (.aload_n 0, 1) := by decide +kernel
theorem dX7_fewest_61 : decode cX7_fewest 61 = .ok (.getfield 61, 3) := by decide +kernel
theorem dX7_fewest_64 : decode cX7_fewest 64 = .ok (.lload_n 1, 1) := by decide +kernel
theorem dX7_fewest_65 : decode cX7_fewest 65 = .ok (.ldc2_w 279, 3) := by decide +kernel
theorem dX7_fewest_68 : decode cX7_fewest 68 = .ok (.land, 1) := by decide +kernel
theorem dX7_fewest_69 : decode cX7_fewest 69 = .ok (.invokevirtual 247, 3) := by decide +kernel
theorem dX7_fewest_72 : decode cX7_fewest 72 = .ok (.lload_n 1, 1) := by decide +kernel
theorem dX7_fewest_73 : decode cX7_fewest 73 = .ok (.bipush 8, 2) := by decide +kernel
theorem dX7_fewest_75 : decode cX7_fewest 75 = .ok (.lshr, 1) := by decide +kernel
theorem dX7_fewest_76 : decode cX7_fewest 76 = .ok (.l2i, 1) := by decide +kernel
theorem dX7_fewest_77 : decode cX7_fewest 77 = .ok (.ireturn, 1) := by decide +kernel
theorem dX7_first_0 : decode cX7_first 0 = .ok (.iload_n 1, 1) := by decide +kernel
theorem dX7_first_1 : decode cX7_first 1 = .ok (.iconst 1, 1) := by decide +kernel
theorem dX7_first_2 : decode cX7_first 2 = .ok (.if_icmp .lt 9, 3) := by decide +kernel
theorem dX7_first_5 : decode cX7_first 5 = .ok (.iload_n 1, 1) := by decide +kernel
theorem dX7_first_6 : decode cX7_first 6 = .ok (.bipush 60, 2) := by decide +kernel
theorem dX7_first_8 : decode cX7_first 8 = .ok (.if_icmp .le 5, 3) := by decide +kernel
theorem dX7_first_11 : decode cX7_first 11 = .ok (.iconst (-1), 1) := by decide +kernel
theorem dX7_first_12 : decode cX7_first 12 = .ok (.ireturn, 1) := by decide +kernel
theorem dX7_first_13 : decode cX7_first 13 = .ok (.aload_n 0, 1) := by decide +kernel
theorem dX7_first_14 : decode cX7_first 14 = .ok (.getfield 33, 3) := by decide +kernel
theorem dX7_first_17 : decode cX7_first 17 = .ok (.aload_n 0, 1) := by decide +kernel
theorem dX7_first_18 : decode cX7_first 18 = .ok (.getfield 26, 3) := by decide +kernel
theorem dX7_first_21 : decode cX7_first 21 = .ok (.invokevirtual 170, 3) := by decide +kernel
theorem dX7_first_24 : decode cX7_first 24 = .ok (.iconst 0, 1) := by decide +kernel
theorem dX7_first_25 : decode cX7_first 25 = .ok (.istore_n 2, 1) := by decide +kernel
theorem dX7_first_26 : decode cX7_first 26 = .ok (.iload_n 2, 1) := by decide +kernel
theorem dX7_first_27 : decode cX7_first 27 = .ok (.iload_n 1, 1) := by decide +kernel
theorem dX7_first_28 : decode cX7_first 28 = .ok (.if_icmp .ge 50, 3) := by decide +kernel
theorem dX7_first_31 : decode cX7_first 31 = .ok (.aload_n 0, 1) := by decide +kernel
theorem dX7_first_32 : decode cX7_first 32 = .ok (.getfield 19, 3) := by decide +kernel
theorem dX7_first_35 : decode cX7_first 35 = .ok (.aload_n 0, 1) := by decide +kernel
theorem dX7_first_36 : decode cX7_first 36 = .ok (.getfield 33, 3) := by decide +kernel
theorem dX7_first_39 : decode cX7_first 39 = .ok (.invokevirtual 241, 3) := by decide +kernel
theorem dX7_first_42 : decode cX7_first 42 = .ok (.aload_n 0, 1) := by decide +kernel
theorem dX7_first_43 : decode cX7_first 43 = .ok (.getfield 19, 3) := by decide +kernel
theorem dX7_first_46 : decode cX7_first 46 = .ok (.getfield 235, 3) := by decide +kernel
theorem dX7_first_49 : decode cX7_first 49 = .ok (.ifCond .eq 23, 3) := by decide +kernel
theorem dX7_first_52 : decode cX7_first 52 = .ok (.aload_n 0, 1) := by decide +kernel
theorem dX7_first_53 : decode cX7_first 53 = .ok (.getfield 61, 3) := by decide +kernel
theorem dX7_first_56 : decode cX7_first 56 = .ok (.aload_n 0, 1) := by decide +kernel
theorem dX7_first_57 : decode cX7_first 57 = .ok (.getfield 19, 3) := by decide +kernel
theorem dX7_first_60 : decode cX7_first 60 = .ok (.getfield 235, 3) := by decide +kernel
theorem dX7_first_63 : decode cX7_first 63 = .ok (.invokestatic 244, 3) := by decide +kernel
theorem dX7_first_66 : decode cX7_first 66 = .ok (.i2l, 1) := by decide +kernel
theorem dX7_first_67 : decode cX7_first 67 = .ok (.invokevirtual 247, 3) := by decide +kernel
theorem dX7_first_70 : decode cX7_first 70 = .ok (.iload_n 2, 1) := by decide +kernel
theorem dX7_first_71 : decode cX7_first 71 = .ok (.ireturn, 1) := by decide +kernel
theorem dX7_first_72 : decode cX7_first 72 = .ok (.iinc 2 1, 3) := by decide +kernel
theorem dX7_first_75 : decode cX7_first 75 = .ok (.goto (-49), 3) := by decide +kernel
theorem dX7_first_78 : decode cX7_first 78 = .ok (.bipush (-2), 2) := by decide +kernel
theorem dX7_first_80 : decode cX7_first 80 = .ok (.ireturn, 1) := by decide +kernel
theorem dX7_fits_0 : decode cX7_fits 0 = .ok (.aload_n 0, 1) := by decide +kernel
theorem dX7_fits_1 : decode cX7_fits 1 = .ok (.invokevirtual 348, 3) := by decide +kernel
theorem dX7_fits_4 : decode cX7_fits 4 = .ok (.aload_n 0, 1) := by decide +kernel
theorem dX7_fits_5 : decode cX7_fits 5 = .ok (.invokevirtual 287, 3) := by decide +kernel
theorem dX7_fits_8 : decode cX7_fits 8 = .ok (.ireturn, 1) := by decide +kernel
theorem dX7_forget_0 : decode cX7_forget 0 = .ok (.aload_n 0, 1) := by decide +kernel
theorem dX7_forget_1 : decode cX7_forget 1 = .ok (.getfield 345, 3) := by decide +kernel
theorem dX7_forget_4 : decode cX7_forget 4 = .ok (.istore_n 1, 1) := by decide +kernel
theorem dX7_forget_5 : decode cX7_forget 5 = .ok (.aload_n 0, 1) := by decide +kernel
theorem dX7_forget_6 : decode cX7_forget 6 = .ok (.iconst 0, 1) := by decide +kernel
theorem dX7_forget_7 : decode cX7_forget 7 = .ok (.putfield 345, 3) := by decide +kernel
theorem dX7_forget_10 : decode cX7_forget 10 = .ok (.iload_n 1, 1) := by decide +kernel
theorem dX7_forget_11 : decode cX7_forget 11 = .ok (.ireturn, 1) := by decide +kernel
theorem dX7_forgetKept_0 : decode cX7_forgetKept 0 = .ok (.iconst 0, 1) := by decide +kernel
theorem dX7_forgetKept_1 : decode cX7_forgetKept 1 = .ok (.istore_n 1, 1) := by decide +kernel
theorem dX7_forgetKept_2 : decode cX7_forgetKept 2 = .ok (.iload_n 1, 1) := by decide +kernel
theorem dX7_forgetKept_3 : decode cX7_forgetKept 3 = .ok (.iconst 2, 1) := by decide +kernel
theorem dX7_forgetKept_4 : decode cX7_forgetKept 4 = .ok (.if_icmp .ge 16, 3) := by decide +kernel
theorem dX7_forgetKept_7 : decode cX7_forgetKept 7 = .ok (.aload_n 0, 1) := by decide +kernel
theorem dX7_forgetKept_8 : decode cX7_forgetKept 8 = .ok (.getfield 47, 3) := by decide +kernel
theorem dX7_forgetKept_11 : decode cX7_forgetKept 11 = .ok (.iload_n 1, 1) := by decide +kernel
theorem dX7_forgetKept_12 : decode cX7_forgetKept 12 = .ok (.iconst 0, 1) := by decide +kernel
theorem dX7_forgetKept_13 : decode cX7_forgetKept 13 = .ok (.bastore, 1) := by decide +kernel
theorem dX7_forgetKept_14 : decode cX7_forgetKept 14 = .ok (.iinc 1 1, 3) := by decide +kernel
theorem dX7_forgetKept_17 : decode cX7_forgetKept 17 = .ok (.goto (-15), 3) := by decide +kernel
theorem dX7_forgetKept_20 : decode cX7_forgetKept 20 = .ok (.return_, 1) := by decide +kernel
theorem dX7_found_0 : decode cX7_found 0 = .ok (.iload_n 1, 1) := by decide +kernel
theorem dX7_found_1 : decode cX7_found 1 = .ok (.invokestatic 134, 3) := by decide +kernel
theorem dX7_found_4 : decode cX7_found 4 = .ok (.ifCond .eq 32, 3) := by decide +kernel
theorem dX7_found_7 : decode cX7_found 7 = .ok (.aload_n 0, 1) := by decide +kernel
theorem dX7_found_8 : decode cX7_found 8 = .ok (.getfield 19, 3) := by decide +kernel
theorem dX7_found_11 : decode cX7_found 11 = .ok (.iload_n 2, 1) := by decide +kernel
theorem dX7_found_12 : decode cX7_found 12 = .ok (.invokevirtual 110, 3) := by decide +kernel
theorem dX7_found_15 : decode cX7_found 15 = .ok (.ifCond .eq 21, 3) := by decide +kernel
theorem dX7_found_18 : decode cX7_found 18 = .ok (.iload_n 3, 1) := by decide +kernel
theorem dX7_found_19 : decode cX7_found 19 = .ok (.ifCond .lt 17, 3) := by decide +kernel
theorem dX7_found_22 : decode cX7_found 22 = .ok (.iload_n 3, 1) := by decide +kernel
theorem dX7_found_23 : decode cX7_found 23 = .ok (.iconst 1, 1) := by decide +kernel
theorem dX7_found_24 : decode cX7_found 24 = .ok (.if_icmp .gt 12, 3) := by decide +kernel
theorem dX7_found_27 : decode cX7_found 27 = .ok (.aload_n 0, 1) := by decide +kernel
theorem dX7_found_28 : decode cX7_found 28 = .ok (.getfield 345, 3) := by decide +kernel
theorem dX7_found_31 : decode cX7_found 31 = .ok (.bipush 12, 2) := by decide +kernel
theorem dX7_found_33 : decode cX7_found 33 = .ok (.if_icmp .lt 5, 3) := by decide +kernel
theorem dX7_found_36 : decode cX7_found 36 = .ok (.iconst (-1), 1) := by decide +kernel
theorem dX7_found_37 : decode cX7_found 37 = .ok (.ireturn, 1) := by decide +kernel
theorem dX7_found_38 : decode cX7_found 38 = .ok (.aload_n 0, 1) := by decide +kernel
theorem dX7_found_39 : decode cX7_found 39 = .ok (.getfield 65, 3) := by decide +kernel
theorem dX7_found_42 : decode cX7_found 42 = .ok (.aload_n 0, 1) := by decide +kernel
theorem dX7_found_43 : decode cX7_found 43 = .ok (.getfield 345, 3) := by decide +kernel
theorem dX7_found_46 : decode cX7_found 46 = .ok (.iload_n 1, 1) := by decide +kernel
theorem dX7_found_47 : decode cX7_found 47 = .ok (.iastore, 1) := by decide +kernel
theorem dX7_found_48 : decode cX7_found 48 = .ok (.aload_n 0, 1) := by decide +kernel
theorem dX7_found_49 : decode cX7_found 49 = .ok (.getfield 69, 3) := by decide +kernel
theorem dX7_found_52 : decode cX7_found 52 = .ok (.aload_n 0, 1) := by decide +kernel
theorem dX7_found_53 : decode cX7_found 53 = .ok (.getfield 345, 3) := by decide +kernel
theorem dX7_found_56 : decode cX7_found 56 = .ok (.iload_n 2, 1) := by decide +kernel
theorem dX7_found_57 : decode cX7_found 57 = .ok (.iastore, 1) := by decide +kernel
theorem dX7_found_58 : decode cX7_found 58 = .ok (.aload_n 0, 1) := by decide +kernel
theorem dX7_found_59 : decode cX7_found 59 = .ok (.getfield 72, 3) := by decide +kernel
theorem dX7_found_62 : decode cX7_found 62 = .ok (.aload_n 0, 1) := by decide +kernel
theorem dX7_found_63 : decode cX7_found 63 = .ok (.getfield 345, 3) := by decide +kernel
theorem dX7_found_66 : decode cX7_found 66 = .ok (.iload_n 3, 1) := by decide +kernel
theorem dX7_found_67 : decode cX7_found 67 = .ok (.iastore, 1) := by decide +kernel
theorem dX7_found_68 : decode cX7_found 68 = .ok (.aload_n 0, 1) := by decide +kernel
theorem dX7_found_69 : decode cX7_found 69 = .ok (.dup, 1) := by decide +kernel
theorem dX7_found_70 : decode cX7_found 70 = .ok (.getfield 345, 3) := by decide +kernel
theorem dX7_found_73 : decode cX7_found 73 = .ok (.iconst 1, 1) := by decide +kernel
theorem dX7_found_74 : decode cX7_found 74 = .ok (.iadd, 1) := by decide +kernel
theorem dX7_found_75 : decode cX7_found 75 = .ok (.putfield 345, 3) := by decide +kernel
theorem dX7_found_78 : decode cX7_found 78 = .ok (.aload_n 0, 1) := by decide +kernel
theorem dX7_found_79 : decode cX7_found 79 = .ok (.getfield 345, 3) := by decide +kernel
theorem dX7_found_82 : decode cX7_found 82 = .ok (.ireturn, 1) := by decide +kernel
theorem dX7_gaps_0 : decode cX7_gaps 0 = .ok (.aload_n 0, 1) := by decide +kernel
theorem dX7_gaps_1 : decode cX7_gaps 1 = .ok (.getfield 19, 3) := by decide +kernel
theorem dX7_gaps_4 : decode cX7_gaps 4 = .ok (.aload_n 0, 1) := by decide +kernel
theorem dX7_gaps_5 : decode cX7_gaps 5 = .ok (.getfield 26, 3) := by decide +kernel
theorem dX7_gaps_8 : decode cX7_gaps 8 = .ok (.invokevirtual 232, 3) := by decide +kernel
theorem dX7_gaps_11 : decode cX7_gaps 11 = .ok (.aload_n 0, 1) := by decide +kernel
theorem dX7_gaps_12 : decode cX7_gaps 12 = .ok (.getfield 61, 3) := by decide +kernel
theorem dX7_gaps_15 : decode cX7_gaps 15 = .ok (.aload_n 0, 1) := by decide +kernel
theorem dX7_gaps_16 : decode cX7_gaps 16 = .ok (.getfield 19, 3) := by decide +kernel
theorem dX7_gaps_19 : decode cX7_gaps 19 = .ok (.getfield 235, 3) := by decide +kernel
theorem dX7_gaps_22 : decode cX7_gaps 22 = .ok (.invokestatic 193, 3) := by decide +kernel
theorem dX7_gaps_25 : decode cX7_gaps 25 = .ok (.i2l, 1) := by decide +kernel
theorem dX7_gaps_26 : decode cX7_gaps 26 = .ok (.aload_n 0, 1) := by decide +kernel
theorem dX7_gaps_27 : decode cX7_gaps 27 = .ok (.getfield 19, 3) := by decide +kernel
theorem dX7_gaps_30 : decode cX7_gaps 30 = .ok (.getfield 238, 3) := by decide +kernel
theorem dX7_gaps_33 : decode cX7_gaps 33 = .ok (.i2l, 1) := by decide +kernel
theorem dX7_gaps_34 : decode cX7_gaps 34 = .ok (.invokevirtual 208, 3) := by decide +kernel
theorem dX7_gaps_37 : decode cX7_gaps 37 = .ok (.aload_n 0, 1) := by decide +kernel
theorem dX7_gaps_38 : decode cX7_gaps 38 = .ok (.getfield 19, 3) := by decide +kernel
theorem dX7_gaps_41 : decode cX7_gaps 41 = .ok (.getfield 235, 3) := by decide +kernel
theorem dX7_gaps_44 : decode cX7_gaps 44 = .ok (.ireturn, 1) := by decide +kernel
theorem dX7_gapsByTrade_0 : decode cX7_gapsByTrade 0 = .ok (.aload_n 0, 1) := by decide +kernel
theorem dX7_gapsByTrade_1 : decode cX7_gapsByTrade 1 = .ok (.getfield 33, 3) := by decide +kernel
theorem dX7_gapsByTrade_4 : decode cX7_gapsByTrade 4 = .ok (.getfield 183, 3) := by decide +kernel
theorem dX7_gapsByTrade_7 : decode cX7_gapsByTrade 7 = .ok (.iload_n 1, 1) := by decide +kernel
theorem dX7_gapsByTrade_8 : decode cX7_gapsByTrade 8 = .ok (.iaload, 1) := by decide +kernel
theorem dX7_gapsByTrade_9 : decode cX7_gapsByTrade 9 = .ok (.istore_n 3, 1) := by decide +kernel
theorem dX7_gapsByTrade_10 : decode cX7_gapsByTrade 10 = .ok (.aload_n 0, 1) := by decide +kernel
theorem dX7_gapsByTrade_11 : decode cX7_gapsByTrade 11 = .ok (.getfield 33, 3) := by decide +kernel
theorem dX7_gapsByTrade_14 : decode cX7_gapsByTrade 14 = .ok (.getfield 183, 3) := by decide +kernel
theorem dX7_gapsByTrade_17 : decode cX7_gapsByTrade 17 = .ok (.iload_n 2, 1) := by decide +kernel
theorem dX7_gapsByTrade_18 : decode cX7_gapsByTrade 18 = .ok (.iaload, 1) := by decide +kernel
theorem dX7_gapsByTrade_19 : decode cX7_gapsByTrade 19 = .ok (.istore 4, 2) := by decide +kernel
theorem dX7_gapsByTrade_21 : decode cX7_gapsByTrade 21 = .ok (.aload_n 0, 1) := by decide +kernel
theorem dX7_gapsByTrade_22 : decode cX7_gapsByTrade 22 = .ok (.getfield 33, 3) := by decide +kernel
theorem dX7_gapsByTrade_25 : decode cX7_gapsByTrade 25 = .ok (.getfield 183, 3) := by decide +kernel
theorem dX7_gapsByTrade_28 : decode cX7_gapsByTrade 28 = .ok (.iload_n 1, 1) := by decide +kernel
theorem dX7_gapsByTrade_29 : decode cX7_gapsByTrade 29 = .ok (.iload 4, 2) := by decide +kernel
theorem dX7_gapsByTrade_31 : decode cX7_gapsByTrade 31 = .ok (.iastore, 1) := by decide +kernel
theorem dX7_gapsByTrade_32 : decode cX7_gapsByTrade 32 = .ok (.aload_n 0, 1) := by decide +kernel
theorem dX7_gapsByTrade_33 : decode cX7_gapsByTrade 33 = .ok (.getfield 33, 3) := by decide +kernel
theorem dX7_gapsByTrade_36 : decode cX7_gapsByTrade 36 = .ok (.getfield 183, 3) := by decide +kernel
theorem dX7_gapsByTrade_39 : decode cX7_gapsByTrade 39 = .ok (.iload_n 2, 1) := by decide +kernel
theorem dX7_gapsByTrade_40 : decode cX7_gapsByTrade 40 = .ok (.iload_n 3, 1) := by decide +kernel
theorem dX7_gapsByTrade_41 : decode cX7_gapsByTrade 41 = .ok (.iastore, 1) := by decide +kernel
theorem dX7_gapsByTrade_42 : decode cX7_gapsByTrade 42 = .ok (.aload_n 0, 1) := by decide +kernel
theorem dX7_gapsByTrade_43 : decode cX7_gapsByTrade 43 = .ok (.getfield 19, 3) := by decide +kernel
theorem dX7_gapsByTrade_46 : decode cX7_gapsByTrade 46 = .ok (.aload_n 0, 1) := by decide +kernel
theorem dX7_gapsByTrade_47 : decode cX7_gapsByTrade 47 = .ok (.getfield 33, 3) := by decide +kernel
theorem dX7_gapsByTrade_50 : decode cX7_gapsByTrade 50 = .ok (.invokevirtual 232, 3) := by decide +kernel
theorem dX7_gapsByTrade_53 : decode cX7_gapsByTrade 53 = .ok (.aload_n 0, 1) := by decide +kernel
theorem dX7_gapsByTrade_54 : decode cX7_gapsByTrade 54 = .ok (.getfield 33, 3) := by decide +kernel
theorem dX7_gapsByTrade_57 : decode cX7_gapsByTrade 57 = .ok (.getfield 183, 3) := by decide +kernel
theorem dX7_gapsByTrade_60 : decode cX7_gapsByTrade 60 = .ok (.iload_n 1, 1) := by decide +kernel
theorem dX7_gapsByTrade_61 : decode cX7_gapsByTrade 61 = .ok (.iload_n 3, 1) := by decide +kernel
theorem dX7_gapsByTrade_62 : decode cX7_gapsByTrade 62 = .ok (.iastore, 1) := by decide +kernel
theorem dX7_gapsByTrade_63 : decode cX7_gapsByTrade 63 = .ok (.aload_n 0, 1) := by decide +kernel
theorem dX7_gapsByTrade_64 : decode cX7_gapsByTrade 64 = .ok (.getfield 33, 3) := by decide +kernel
theorem dX7_gapsByTrade_67 : decode cX7_gapsByTrade 67 = .ok (.getfield 183, 3) := by decide +kernel
theorem dX7_gapsByTrade_70 : decode cX7_gapsByTrade 70 = .ok (.iload_n 2, 1) := by decide +kernel
theorem dX7_gapsByTrade_71 : decode cX7_gapsByTrade 71 = .ok (.iload 4, 2) := by decide +kernel
theorem dX7_gapsByTrade_73 : decode cX7_gapsByTrade 73 = .ok (.iastore, 1) := by decide +kernel
theorem dX7_gapsByTrade_74 : decode cX7_gapsByTrade 74 = .ok (.aload_n 0, 1) := by decide +kernel
theorem dX7_gapsByTrade_75 : decode cX7_gapsByTrade 75 = .ok (.getfield 19, 3) := by decide +kernel
theorem dX7_gapsByTrade_78 : decode cX7_gapsByTrade 78 = .ok (.getfield 235, 3) := by decide +kernel
theorem dX7_gapsByTrade_81 : decode cX7_gapsByTrade 81 = .ok (.invokestatic 193, 3) := by decide +kernel
theorem dX7_gapsByTrade_84 : decode cX7_gapsByTrade 84 = .ok (.ireturn, 1) := by decide +kernel
theorem dX7_give_0 : decode cX7_give 0 = .ok (.iload_n 1, 1) := by decide +kernel
theorem dX7_give_1 : decode cX7_give 1 = .ok (.invokestatic 134, 3) := by decide +kernel
theorem dX7_give_4 : decode cX7_give 4 = .ok (.ifCond .eq 14, 3) := by decide +kernel
theorem dX7_give_7 : decode cX7_give 7 = .ok (.aload_n 0, 1) := by decide +kernel
theorem dX7_give_8 : decode cX7_give 8 = .ok (.getfield 19, 3) := by decide +kernel
theorem dX7_give_11 : decode cX7_give 11 = .ok (.iload_n 2, 1) := by decide +kernel
theorem dX7_give_12 : decode cX7_give 12 = .ok (.invokevirtual 180, 3) := by decide +kernel
theorem dX7_give_15 : decode cX7_give 15 = .ok (.ifCond .ne 6, 3) := by decide +kernel
theorem dX7_give_18 : decode cX7_give 18 = .ok (.bipush (-2), 2) := by decide +kernel
theorem dX7_give_20 : decode cX7_give 20 = .ok (.ireturn, 1) := by decide +kernel
theorem dX7_give_21 : decode cX7_give 21 = .ok (.aload_n 0, 1) := by decide +kernel
theorem dX7_give_22 : decode cX7_give 22 = .ok (.getfield 39, 3) := by decide +kernel
theorem dX7_give_25 : decode cX7_give 25 = .ok (.aload_n 0, 1) := by decide +kernel
theorem dX7_give_26 : decode cX7_give 26 = .ok (.getfield 26, 3) := by decide +kernel
theorem dX7_give_29 : decode cX7_give 29 = .ok (.invokevirtual 177, 3) := by decide +kernel
theorem dX7_give_32 : decode cX7_give 32 = .ok (.aload_n 0, 1) := by decide +kernel
theorem dX7_give_33 : decode cX7_give 33 = .ok (.getfield 26, 3) := by decide +kernel
theorem dX7_give_36 : decode cX7_give 36 = .ok (.getfield 183, 3) := by decide +kernel
theorem dX7_give_39 : decode cX7_give 39 = .ok (.iload_n 1, 1) := by decide +kernel
theorem dX7_give_40 : decode cX7_give 40 = .ok (.iaload, 1) := by decide +kernel
theorem dX7_give_41 : decode cX7_give 41 = .ok (.istore_n 3, 1) := by decide +kernel
theorem dX7_give_42 : decode cX7_give 42 = .ok (.aload_n 0, 1) := by decide +kernel
theorem dX7_give_43 : decode cX7_give 43 = .ok (.getfield 26, 3) := by decide +kernel
theorem dX7_give_46 : decode cX7_give 46 = .ok (.getfield 183, 3) := by decide +kernel
theorem dX7_give_49 : decode cX7_give 49 = .ok (.iload_n 1, 1) := by decide +kernel
theorem dX7_give_50 : decode cX7_give 50 = .ok (.iload_n 2, 1) := by decide +kernel
theorem dX7_give_51 : decode cX7_give 51 = .ok (.iastore, 1) := by decide +kernel
theorem dX7_give_52 : decode cX7_give 52 = .ok (.iload_n 3, 1) := by decide +kernel
theorem dX7_give_53 : decode cX7_give 53 = .ok (.ireturn, 1) := by decide +kernel
theorem dX7_greatestShared_0 : decode cX7_greatestShared 0 = .ok (.iconst 0, 1) := by decide +kernel
theorem dX7_greatestShared_1 : decode cX7_greatestShared 1 = .ok (.istore 4, 2) := by decide +kernel
theorem dX7_greatestShared_3 : decode cX7_greatestShared 3 = .ok (.iload 4, 2) := by decide +kernel
theorem dX7_greatestShared_5 : decode cX7_greatestShared 5 = .ok (.sipush 128, 3) := by decide +kernel
theorem dX7_greatestShared_8 : decode cX7_greatestShared 8 = .ok (.if_icmp .ge 25, 3) := by decide +kernel
theorem dX7_greatestShared_11 : decode cX7_greatestShared 11 = .ok (.lload_n 2, 1) := by decide +kernel
theorem dX7_greatestShared_12 : decode cX7_greatestShared 12 = .ok (.lconst 0, 1) := by decide +kernel
theorem dX7_greatestShared_13 : decode cX7_greatestShared 13 = .ok (.lcmp, 1) := by decide +kernel
theorem dX7_greatestShared_14 : decode cX7_greatestShared 14 = .ok (.ifCond .eq 19, 3) := by decide +kernel
theorem dX7_greatestShared_17 : decode cX7_greatestShared 17 = .ok (.lload_n 0, 1) := by decide +kernel
theorem dX7_greatestShared_18 : decode cX7_greatestShared 18 = .ok (.lload_n 2, 1) := by decide +kernel
theorem dX7_greatestShared_19 : decode cX7_greatestShared 19 = .ok (.lrem, 1) := by decide +kernel
theorem dX7_greatestShared_20 : decode cX7_greatestShared 20 = .ok (.lstore 5, 2) := by decide +kernel
theorem dX7_greatestShared_22 : decode cX7_greatestShared 22 = .ok (.lload_n 2, 1) := by decide +kernel
theorem dX7_greatestShared_23 : decode cX7_greatestShared 23 = .ok (.lstore_n 0, 1) := by decide +kernel
theorem dX7_greatestShared_24 : decode cX7_greatestShared 24 = .ok (.lload 5, 2) := by decide +kernel
theorem dX7_greatestShared_26 : decode cX7_greatestShared 26 = .ok (.lstore_n 2, 1) := by decide +kernel
theorem dX7_greatestShared_27 : decode cX7_greatestShared 27 = .ok (.iinc 4 1, 3) := by decide +kernel
theorem dX7_greatestShared_30 : decode cX7_greatestShared 30 = .ok (.goto (-27), 3) := by decide +kernel
theorem dX7_greatestShared_33 : decode cX7_greatestShared 33 = .ok (.lload_n 0, 1) := by decide +kernel
theorem dX7_greatestShared_34 : decode cX7_greatestShared 34 = .ok (.lreturn, 1) := by decide +kernel
theorem dX7_hard_0 : decode cX7_hard 0 = .ok (.aload_n 0, 1) := by decide +kernel
theorem dX7_hard_1 : decode cX7_hard 1 = .ok (.getfield 19, 3) := by decide +kernel
theorem dX7_hard_4 : decode cX7_hard 4 = .ok (.iload_n 1, 1) := by decide +kernel
theorem dX7_hard_5 : decode cX7_hard 5 = .ok (.invokevirtual 110, 3) := by decide +kernel
theorem dX7_hard_8 : decode cX7_hard 8 = .ok (.ifCond .eq 10, 3) := by decide +kernel
theorem dX7_hard_11 : decode cX7_hard 11 = .ok (.iload_n 2, 1) := by decide +kernel
theorem dX7_hard_12 : decode cX7_hard 12 = .ok (.invokestatic 134, 3) := by decide +kernel
theorem dX7_hard_15 : decode cX7_hard 15 = .ok (.ifCond .ne 5, 3) := by decide +kernel
theorem dX7_hard_18 : decode cX7_hard 18 = .ok (.iconst (-1), 1) := by decide +kernel
theorem dX7_hard_19 : decode cX7_hard 19 = .ok (.ireturn, 1) := by decide +kernel
theorem dX7_hard_20 : decode cX7_hard 20 = .ok (.aload_n 0, 1) := by decide +kernel
theorem dX7_hard_21 : decode cX7_hard 21 = .ok (.iload_n 1, 1) := by decide +kernel
theorem dX7_hard_22 : decode cX7_hard 22 = .ok (.iload_n 2, 1) := by decide +kernel
theorem dX7_hard_23 : decode cX7_hard 23 = .ok (.invokevirtual 137, 3) := by decide +kernel
theorem dX7_hard_26 : decode cX7_hard 26 = .ok (.ireturn, 1) := by decide +kernel
theorem dX7_hardNow_0 : decode cX7_hardNow 0 = .ok (.aload_n 0, 1) := by decide +kernel
theorem dX7_hardNow_1 : decode cX7_hardNow 1 = .ok (.getfield 19, 3) := by decide +kernel
theorem dX7_hardNow_4 : decode cX7_hardNow 4 = .ok (.aload_n 0, 1) := by decide +kernel
theorem dX7_hardNow_5 : decode cX7_hardNow 5 = .ok (.getfield 19, 3) := by decide +kernel
theorem dX7_hardNow_8 : decode cX7_hardNow 8 = .ok (.getfield 107, 3) := by decide +kernel
theorem dX7_hardNow_11 : decode cX7_hardNow 11 = .ok (.aload_n 0, 1) := by decide +kernel
theorem dX7_hardNow_12 : decode cX7_hardNow 12 = .ok (.getfield 26, 3) := by decide +kernel
theorem dX7_hardNow_15 : decode cX7_hardNow 15 = .ok (.iload_n 1, 1) := by decide +kernel
theorem dX7_hardNow_16 : decode cX7_hardNow 16 = .ok (.iload_n 2, 1) := by decide +kernel
theorem dX7_hardNow_17 : decode cX7_hardNow 17 = .ok (.invokevirtual 407, 3) := by decide +kernel
theorem dX7_hardNow_20 : decode cX7_hardNow 20 = .ok (.ireturn, 1) := by decide +kernel
theorem dX7_hardOfRota_0 : decode cX7_hardOfRota 0 = .ok (.iconst 0, 1) := by decide +kernel
theorem dX7_hardOfRota_1 : decode cX7_hardOfRota 1 = .ok (.istore_n 2, 1) := by decide +kernel
theorem dX7_hardOfRota_2 : decode cX7_hardOfRota 2 = .ok (.iconst 0, 1) := by decide +kernel
theorem dX7_hardOfRota_3 : decode cX7_hardOfRota 3 = .ok (.istore_n 3, 1) := by decide +kernel
theorem dX7_hardOfRota_4 : decode cX7_hardOfRota 4 = .ok (.iload_n 3, 1) := by decide +kernel
theorem dX7_hardOfRota_5 : decode cX7_hardOfRota 5 = .ok (.aload_n 0, 1) := by decide +kernel
theorem dX7_hardOfRota_6 : decode cX7_hardOfRota 6 = .ok (.getfield 19, 3) := by decide +kernel
theorem dX7_hardOfRota_9 : decode cX7_hardOfRota 9 = .ok (.getfield 141, 3) := by decide +kernel
theorem dX7_hardOfRota_12 : decode cX7_hardOfRota 12 = .ok (.if_icmp .ge 54, 3) := by decide +kernel
theorem dX7_hardOfRota_15 : decode cX7_hardOfRota 15 = .ok (.aload_n 0, 1) := by decide +kernel
theorem dX7_hardOfRota_16 : decode cX7_hardOfRota 16 = .ok (.getfield 26, 3) := by decide +kernel
theorem dX7_hardOfRota_19 : decode cX7_hardOfRota 19 = .ok (.getfield 183, 3) := by decide +kernel
theorem dX7_hardOfRota_22 : decode cX7_hardOfRota 22 = .ok (.iload_n 3, 1) := by decide +kernel
theorem dX7_hardOfRota_23 : decode cX7_hardOfRota 23 = .ok (.iaload, 1) := by decide +kernel
theorem dX7_hardOfRota_24 : decode cX7_hardOfRota 24 = .ok (.istore 4, 2) := by decide +kernel
theorem dX7_hardOfRota_26 : decode cX7_hardOfRota 26 = .ok (.iload_n 2, 1) := by decide +kernel
theorem dX7_hardOfRota_27 : decode cX7_hardOfRota 27 = .ok (.aload_n 0, 1) := by decide +kernel
theorem dX7_hardOfRota_28 : decode cX7_hardOfRota 28 = .ok (.getfield 19, 3) := by decide +kernel
theorem dX7_hardOfRota_31 : decode cX7_hardOfRota 31 = .ok (.iload 4, 2) := by decide +kernel
theorem dX7_hardOfRota_33 : decode cX7_hardOfRota 33 = .ok (.invokevirtual 110, 3) := by decide +kernel
theorem dX7_hardOfRota_36 : decode cX7_hardOfRota 36 = .ok (.ifCond .eq 21, 3) := by decide +kernel
theorem dX7_hardOfRota_39 : decode cX7_hardOfRota 39 = .ok (.aload_n 0, 1) := by decide +kernel
theorem dX7_hardOfRota_40 : decode cX7_hardOfRota 40 = .ok (.getfield 19, 3) := by decide +kernel
theorem dX7_hardOfRota_43 : decode cX7_hardOfRota 43 = .ok (.aload_n 1, 1) := by decide +kernel
theorem dX7_hardOfRota_44 : decode cX7_hardOfRota 44 = .ok (.aload_n 0, 1) := by decide +kernel
theorem dX7_hardOfRota_45 : decode cX7_hardOfRota 45 = .ok (.getfield 26, 3) := by decide +kernel
theorem dX7_hardOfRota_48 : decode cX7_hardOfRota 48 = .ok (.iload 4, 2) := by decide +kernel
theorem dX7_hardOfRota_50 : decode cX7_hardOfRota 50 = .ok (.iload_n 3, 1) := by decide +kernel
theorem dX7_hardOfRota_51 : decode cX7_hardOfRota 51 = .ok (.invokevirtual 407, 3) := by decide +kernel
theorem dX7_hardOfRota_54 : decode cX7_hardOfRota 54 = .ok (.goto 4, 3) := by decide +kernel
theorem dX7_hardOfRota_57 : decode cX7_hardOfRota 57 = .ok (.iconst 0, 1) := by decide +kernel
theorem dX7_hardOfRota_58 : decode cX7_hardOfRota 58 = .ok (.iadd, 1) := by decide +kernel
theorem dX7_hardOfRota_59 : decode cX7_hardOfRota 59 = .ok (.istore_n 2, 1) := by decide +kernel
theorem dX7_hardOfRota_60 : decode cX7_hardOfRota 60 = .ok (.iinc 3 1, 3) := by decide +kernel
theorem dX7_hardOfRota_63 : decode cX7_hardOfRota 63 = .ok (.goto (-59), 3) := by decide +kernel
theorem dX7_hardOfRota_66 : decode cX7_hardOfRota 66 = .ok (.iload_n 2, 1) := by decide +kernel
theorem dX7_hardOfRota_67 : decode cX7_hardOfRota 67 = .ok (.ireturn, 1) := by decide +kernel
theorem dX7_hardestOf_0 : decode cX7_hardestOf 0 = .ok (.iconst 0, 1) := by decide +kernel
theorem dX7_hardestOf_1 : decode cX7_hardestOf 1 = .ok (.istore_n 2, 1) := by decide +kernel
theorem dX7_hardestOf_2 : decode cX7_hardestOf 2 = .ok (.iconst 0, 1) := by decide +kernel
theorem dX7_hardestOf_3 : decode cX7_hardestOf 3 = .ok (.istore_n 3, 1) := by decide +kernel
theorem dX7_hardestOf_4 : decode cX7_hardestOf 4 = .ok (.iload_n 3, 1) := by decide +kernel
theorem dX7_hardestOf_5 : decode cX7_hardestOf 5 = .ok (.bipush 8, 2) := by decide +kernel
theorem dX7_hardestOf_7 : decode cX7_hardestOf 7 = .ok (.if_icmp .ge 37, 3) := by decide +kernel
theorem dX7_hardestOf_10 : decode cX7_hardestOf 10 = .ok (.aload_n 0, 1) := by decide +kernel
theorem dX7_hardestOf_11 : decode cX7_hardestOf 11 = .ok (.getfield 19, 3) := by decide +kernel
theorem dX7_hardestOf_14 : decode cX7_hardestOf 14 = .ok (.getfield 122, 3) := by decide +kernel
theorem dX7_hardestOf_17 : decode cX7_hardestOf 17 = .ok (.iload_n 1, 1) := by decide +kernel
theorem dX7_hardestOf_18 : decode cX7_hardestOf 18 = .ok (.iaload, 1) := by decide +kernel
theorem dX7_hardestOf_19 : decode cX7_hardestOf 19 = .ok (.iload_n 3, 1) := by decide +kernel
theorem dX7_hardestOf_20 : decode cX7_hardestOf 20 = .ok (.ishr, 1) := by decide +kernel
theorem dX7_hardestOf_21 : decode cX7_hardestOf 21 = .ok (.iconst 1, 1) := by decide +kernel
theorem dX7_hardestOf_22 : decode cX7_hardestOf 22 = .ok (.iand, 1) := by decide +kernel
theorem dX7_hardestOf_23 : decode cX7_hardestOf 23 = .ok (.iconst 1, 1) := by decide +kernel
theorem dX7_hardestOf_24 : decode cX7_hardestOf 24 = .ok (.if_icmp .ne 14, 3) := by decide +kernel
theorem dX7_hardestOf_27 : decode cX7_hardestOf 27 = .ok (.iload_n 2, 1) := by decide +kernel
theorem dX7_hardestOf_28 : decode cX7_hardestOf 28 = .ok (.aload_n 0, 1) := by decide +kernel
theorem dX7_hardestOf_29 : decode cX7_hardestOf 29 = .ok (.iload_n 1, 1) := by decide +kernel
theorem dX7_hardestOf_30 : decode cX7_hardestOf 30 = .ok (.iload_n 3, 1) := by decide +kernel
theorem dX7_hardestOf_31 : decode cX7_hardestOf 31 = .ok (.invokevirtual 137, 3) := by decide +kernel
theorem dX7_hardestOf_34 : decode cX7_hardestOf 34 = .ok (.invokestatic 323, 3) := by decide +kernel
theorem dX7_hardestOf_37 : decode cX7_hardestOf 37 = .ok (.istore_n 2, 1) := by decide +kernel
theorem dX7_hardestOf_38 : decode cX7_hardestOf 38 = .ok (.iinc 3 1, 3) := by decide +kernel
theorem dX7_hardestOf_41 : decode cX7_hardestOf 41 = .ok (.goto (-37), 3) := by decide +kernel
theorem dX7_hardestOf_44 : decode cX7_hardestOf 44 = .ok (.iload_n 2, 1) := by decide +kernel
theorem dX7_hardestOf_45 : decode cX7_hardestOf 45 = .ok (.ireturn, 1) := by decide +kernel
theorem dX7_held_0 : decode cX7_held 0 = .ok (.iload_n 1, 1) := by decide +kernel
theorem dX7_held_1 : decode cX7_held 1 = .ok (.ifCond .lt 9, 3) := by decide +kernel
theorem dX7_held_4 : decode cX7_held 4 = .ok (.iload_n 1, 1) := by decide +kernel
theorem dX7_held_5 : decode cX7_held 5 = .ok (.bipush 10, 2) := by decide +kernel
theorem dX7_held_7 : decode cX7_held 7 = .ok (.if_icmp .le 5, 3) := by decide +kernel
theorem dX7_held_10 : decode cX7_held 10 = .ok (.iconst (-1), 1) := by decide +kernel
theorem dX7_held_11 : decode cX7_held 11 = .ok (.ireturn, 1) := by decide +kernel
theorem dX7_held_12 : decode cX7_held 12 = .ok (.aload_n 0, 1) := by decide +kernel
theorem dX7_held_13 : decode cX7_held 13 = .ok (.iconst (-1), 1) := by decide +kernel
theorem dX7_held_14 : decode cX7_held 14 = .ok (.invokevirtual 268, 3) := by decide +kernel
theorem dX7_held_17 : decode cX7_held 17 = .ok (.aload_n 0, 1) := by decide +kernel
theorem dX7_held_18 : decode cX7_held 18 = .ok (.getfield 54, 3) := by decide +kernel
theorem dX7_held_21 : decode cX7_held 21 = .ok (.invokevirtual 367, 3) := by decide +kernel
theorem dX7_held_24 : decode cX7_held 24 = .ok (.aload_n 0, 1) := by decide +kernel
theorem dX7_held_25 : decode cX7_held 25 = .ok (.aload_n 0, 1) := by decide +kernel
theorem dX7_held_26 : decode cX7_held 26 = .ok (.aload_n 0, 1) := by decide +kernel
theorem dX7_held_27 : decode cX7_held 27 = .ok (.invokevirtual 313, 3) := by decide +kernel
theorem dX7_held_30 : decode cX7_held 30 = .ok (.iload_n 1, 1) := by decide +kernel
theorem dX7_held_31 : decode cX7_held 31 = .ok (.invokevirtual 370, 3) := by decide +kernel
theorem dX7_held_34 : decode cX7_held 34 = .ok (.bipush 10, 2) := by decide +kernel
theorem dX7_held_36 : decode cX7_held 36 = .ok (.aload_n 0, 1) := by decide +kernel
theorem dX7_held_37 : decode cX7_held 37 = .ok (.invokevirtual 313, 3) := by decide +kernel
theorem dX7_held_40 : decode cX7_held 40 = .ok (.invokestatic 193, 3) := by decide +kernel
theorem dX7_held_43 : decode cX7_held 43 = .ok (.invokestatic 374, 3) := by decide +kernel
theorem dX7_held_46 : decode cX7_held 46 = .ok (.invokevirtual 358, 3) := by decide +kernel
theorem dX7_held_49 : decode cX7_held 49 = .ok (.iconst 0, 1) := by decide +kernel
theorem dX7_held_50 : decode cX7_held 50 = .ok (.ireturn, 1) := by decide +kernel
theorem dX7_ill_0 : decode cX7_ill 0 = .ok (.aload_n 0, 1) := by decide +kernel
theorem dX7_ill_1 : decode cX7_ill 1 = .ok (.getfield 19, 3) := by decide +kernel
theorem dX7_ill_4 : decode cX7_ill 4 = .ok (.iload_n 1, 1) := by decide +kernel
theorem dX7_ill_5 : decode cX7_ill 5 = .ok (.invokevirtual 110, 3) := by decide +kernel
theorem dX7_ill_8 : decode cX7_ill 8 = .ok (.ifCond .ne 5, 3) := by decide +kernel
theorem dX7_ill_11 : decode cX7_ill 11 = .ok (.iconst (-1), 1) := by decide +kernel
theorem dX7_ill_12 : decode cX7_ill 12 = .ok (.ireturn, 1) := by decide +kernel
theorem dX7_ill_13 : decode cX7_ill 13 = .ok (.aload_n 0, 1) := by decide +kernel
theorem dX7_ill_14 : decode cX7_ill 14 = .ok (.getfield 39, 3) := by decide +kernel
theorem dX7_ill_17 : decode cX7_ill 17 = .ok (.aload_n 0, 1) := by decide +kernel
theorem dX7_ill_18 : decode cX7_ill 18 = .ok (.getfield 26, 3) := by decide +kernel
theorem dX7_ill_21 : decode cX7_ill 21 = .ok (.invokevirtual 177, 3) := by decide +kernel
theorem dX7_ill_24 : decode cX7_ill 24 = .ok (.aload_n 0, 1) := by decide +kernel
theorem dX7_ill_25 : decode cX7_ill 25 = .ok (.getfield 26, 3) := by decide +kernel
theorem dX7_ill_28 : decode cX7_ill 28 = .ok (.iload_n 1, 1) := by decide +kernel
theorem dX7_ill_29 : decode cX7_ill 29 = .ok (.invokevirtual 186, 3) := by decide +kernel
theorem dX7_ill_32 : decode cX7_ill 32 = .ok (.aload_n 0, 1) := by decide +kernel
theorem dX7_ill_33 : decode cX7_ill 33 = .ok (.getfield 26, 3) := by decide +kernel
theorem dX7_ill_36 : decode cX7_ill 36 = .ok (.getfield 190, 3) := by decide +kernel
theorem dX7_ill_39 : decode cX7_ill 39 = .ok (.invokestatic 193, 3) := by decide +kernel
theorem dX7_ill_42 : decode cX7_ill 42 = .ok (.ireturn, 1) := by decide +kernel
theorem dX7_init_0 : decode cX7_init 0 = .ok (.aload_n 0, 1) := by decide +kernel
theorem dX7_init_1 : decode cX7_init 1 = .ok (.invokespecial 1, 3) := by decide +kernel
theorem dX7_init_4 : decode cX7_init 4 = .ok (.aload_n 0, 1) := by decide +kernel
theorem dX7_init_5 : decode cX7_init 5 = .ok (.new 7, 3) := by decide +kernel
theorem dX7_init_8 : decode cX7_init 8 = .ok (.dup, 1) := by decide +kernel
theorem dX7_init_9 : decode cX7_init 9 = .ok (.invokespecial 9, 3) := by decide +kernel
theorem dX7_init_12 : decode cX7_init 12 = .ok (.putfield 10, 3) := by decide +kernel
theorem dX7_init_15 : decode cX7_init 15 = .ok (.aload_n 0, 1) := by decide +kernel
theorem dX7_init_16 : decode cX7_init 16 = .ok (.new 16, 3) := by decide +kernel
theorem dX7_init_19 : decode cX7_init 19 = .ok (.dup, 1) := by decide +kernel
theorem dX7_init_20 : decode cX7_init 20 = .ok (.invokespecial 18, 3) := by decide +kernel
theorem dX7_init_23 : decode cX7_init 23 = .ok (.putfield 19, 3) := by decide +kernel
theorem dX7_init_26 : decode cX7_init 26 = .ok (.aload_n 0, 1) := by decide +kernel
theorem dX7_init_27 : decode cX7_init 27 = .ok (.new 23, 3) := by decide +kernel
theorem dX7_init_30 : decode cX7_init 30 = .ok (.dup, 1) := by decide +kernel
theorem dX7_init_31 : decode cX7_init 31 = .ok (.invokespecial 25, 3) := by decide +kernel
theorem dX7_init_34 : decode cX7_init 34 = .ok (.putfield 26, 3) := by decide +kernel
theorem dX7_init_37 : decode cX7_init 37 = .ok (.aload_n 0, 1) := by decide +kernel
theorem dX7_init_38 : decode cX7_init 38 = .ok (.new 23, 3) := by decide +kernel
theorem dX7_init_41 : decode cX7_init 41 = .ok (.dup, 1) := by decide +kernel
theorem dX7_init_42 : decode cX7_init 42 = .ok (.invokespecial 25, 3) := by decide +kernel
theorem dX7_init_45 : decode cX7_init 45 = .ok (.putfield 30, 3) := by decide +kernel
theorem dX7_init_48 : decode cX7_init 48 = .ok (.aload_n 0, 1) := by decide +kernel
theorem dX7_init_49 : decode cX7_init 49 = .ok (.new 23, 3) := by decide +kernel
theorem dX7_init_52 : decode cX7_init 52 = .ok (.dup, 1) := by decide +kernel
theorem dX7_init_53 : decode cX7_init 53 = .ok (.invokespecial 25, 3) := by decide +kernel
theorem dX7_init_56 : decode cX7_init 56 = .ok (.putfield 33, 3) := by decide +kernel
theorem dX7_init_59 : decode cX7_init 59 = .ok (.aload_n 0, 1) := by decide +kernel
theorem dX7_init_60 : decode cX7_init 60 = .ok (.new 36, 3) := by decide +kernel
theorem dX7_init_63 : decode cX7_init 63 = .ok (.dup, 1) := by decide +kernel
theorem dX7_init_64 : decode cX7_init 64 = .ok (.invokespecial 38, 3) := by decide +kernel
theorem dX7_init_67 : decode cX7_init 67 = .ok (.putfield 39, 3) := by decide +kernel
theorem dX7_init_70 : decode cX7_init 70 = .ok (.aload_n 0, 1) := by decide +kernel
theorem dX7_init_71 : decode cX7_init 71 = .ok (.iconst 2, 1) := by decide +kernel
theorem dX7_init_72 : decode cX7_init 72 = .ok (.anewarray 23, 3) := by decide +kernel
theorem dX7_init_75 : decode cX7_init 75 = .ok (.putfield 43, 3) := by decide +kernel
theorem dX7_init_78 : decode cX7_init 78 = .ok (.aload_n 0, 1) := by decide +kernel
theorem dX7_init_79 : decode cX7_init 79 = .ok (.iconst 2, 1) := by decide +kernel
theorem dX7_init_80 : decode cX7_init 80 = .ok (.newarray .boolean, 2) := by decide +kernel
theorem dX7_init_82 : decode cX7_init 82 = .ok (.putfield 47, 3) := by decide +kernel
theorem dX7_init_85 : decode cX7_init 85 = .ok (.aload_n 0, 1) := by decide +kernel
theorem dX7_init_86 : decode cX7_init 86 = .ok (.new 51, 3) := by decide +kernel
theorem dX7_init_89 : decode cX7_init 89 = .ok (.dup, 1) := by decide +kernel
theorem dX7_init_90 : decode cX7_init 90 = .ok (.invokespecial 53, 3) := by decide +kernel
theorem dX7_init_93 : decode cX7_init 93 = .ok (.putfield 54, 3) := by decide +kernel
theorem dX7_init_96 : decode cX7_init 96 = .ok (.aload_n 0, 1) := by decide +kernel
theorem dX7_init_97 : decode cX7_init 97 = .ok (.new 58, 3) := by decide +kernel
theorem dX7_init_100 : decode cX7_init 100 = .ok (.dup, 1) := by decide +kernel
theorem dX7_init_101 : decode cX7_init 101 = .ok (.invokespecial 60, 3) := by decide +kernel
theorem dX7_init_104 : decode cX7_init 104 = .ok (.putfield 61, 3) := by decide +kernel
theorem dX7_init_107 : decode cX7_init 107 = .ok (.aload_n 0, 1) := by decide +kernel
theorem dX7_init_108 : decode cX7_init 108 = .ok (.bipush 12, 2) := by decide +kernel
theorem dX7_init_110 : decode cX7_init 110 = .ok (.newarray .int, 2) := by decide +kernel
theorem dX7_init_112 : decode cX7_init 112 = .ok (.putfield 65, 3) := by decide +kernel
theorem dX7_init_115 : decode cX7_init 115 = .ok (.aload_n 0, 1) := by decide +kernel
theorem dX7_init_116 : decode cX7_init 116 = .ok (.bipush 12, 2) := by decide +kernel
theorem dX7_init_118 : decode cX7_init 118 = .ok (.newarray .int, 2) := by decide +kernel
theorem dX7_init_120 : decode cX7_init 120 = .ok (.putfield 69, 3) := by decide +kernel
theorem dX7_init_123 : decode cX7_init 123 = .ok (.aload_n 0, 1) := by decide +kernel
theorem dX7_init_124 : decode cX7_init 124 = .ok (.bipush 12, 2) := by decide +kernel
theorem dX7_init_126 : decode cX7_init 126 = .ok (.newarray .int, 2) := by decide +kernel
theorem dX7_init_128 : decode cX7_init 128 = .ok (.putfield 72, 3) := by decide +kernel
theorem dX7_init_131 : decode cX7_init 131 = .ok (.aload_n 0, 1) := by decide +kernel
theorem dX7_init_132 : decode cX7_init 132 = .ok (.new 75, 3) := by decide +kernel
theorem dX7_init_135 : decode cX7_init 135 = .ok (.dup, 1) := by decide +kernel
theorem dX7_init_136 : decode cX7_init 136 = .ok (.invokespecial 77, 3) := by decide +kernel
theorem dX7_init_139 : decode cX7_init 139 = .ok (.putfield 78, 3) := by decide +kernel
theorem dX7_init_142 : decode cX7_init 142 = .ok (.iconst 0, 1) := by decide +kernel
theorem dX7_init_143 : decode cX7_init 143 = .ok (.istore_n 1, 1) := by decide +kernel
theorem dX7_init_144 : decode cX7_init 144 = .ok (.iload_n 1, 1) := by decide +kernel
theorem dX7_init_145 : decode cX7_init 145 = .ok (.iconst 2, 1) := by decide +kernel
theorem dX7_init_146 : decode cX7_init 146 = .ok (.if_icmp .ge 22, 3) := by decide +kernel
theorem dX7_init_149 : decode cX7_init 149 = .ok (.aload_n 0, 1) := by decide +kernel
theorem dX7_init_150 : decode cX7_init 150 = .ok (.getfield 43, 3) := by decide +kernel
theorem dX7_init_153 : decode cX7_init 153 = .ok (.iload_n 1, 1) := by decide +kernel
theorem dX7_init_154 : decode cX7_init 154 = .ok (.new 23, 3) := by decide +kernel
theorem dX7_init_157 : decode cX7_init 157 = .ok (.dup, 1) := by decide +kernel
theorem dX7_init_158 : decode cX7_init 158 = .ok (.invokespecial 25, 3) := by decide +kernel
theorem dX7_init_161 : decode cX7_init 161 = .ok (.aastore, 1) := by decide +kernel
theorem dX7_init_162 : decode cX7_init 162 = .ok (.iinc 1 1, 3) := by decide +kernel
theorem dX7_init_165 : decode cX7_init 165 = .ok (.goto (-21), 3) := by decide +kernel
theorem dX7_init_168 : decode cX7_init 168 = .ok (.return_, 1) := by decide +kernel
theorem dX7_isAtRest_0 : decode cX7_isAtRest 0 = .ok (.iload_n 0, 1) := by decide +kernel
theorem dX7_isAtRest_1 : decode cX7_isAtRest 1 = .ok (.iload_n 1, 1) := by decide +kernel
theorem dX7_isAtRest_2 : decode cX7_isAtRest 2 = .ok (.if_icmp .lt 9, 3) := by decide +kernel
theorem dX7_isAtRest_5 : decode cX7_isAtRest 5 = .ok (.iload_n 2, 1) := by decide +kernel
theorem dX7_isAtRest_6 : decode cX7_isAtRest 6 = .ok (.iload_n 1, 1) := by decide +kernel
theorem dX7_isAtRest_7 : decode cX7_isAtRest 7 = .ok (.isub, 1) := by decide +kernel
theorem dX7_isAtRest_8 : decode cX7_isAtRest 8 = .ok (.goto 4, 3) := by decide +kernel
theorem dX7_isAtRest_11 : decode cX7_isAtRest 11 = .ok (.iconst 0, 1) := by decide +kernel
theorem dX7_isAtRest_12 : decode cX7_isAtRest 12 = .ok (.istore 4, 2) := by decide +kernel
theorem dX7_isAtRest_14 : decode cX7_isAtRest 14 = .ok (.iload_n 1, 1) := by decide +kernel
theorem dX7_isAtRest_15 : decode cX7_isAtRest 15 = .ok (.iload_n 0, 1) := by decide +kernel
theorem dX7_isAtRest_16 : decode cX7_isAtRest 16 = .ok (.if_icmp .le 9, 3) := by decide +kernel
theorem dX7_isAtRest_19 : decode cX7_isAtRest 19 = .ok (.iload_n 3, 1) := by decide +kernel
theorem dX7_isAtRest_20 : decode cX7_isAtRest 20 = .ok (.iload_n 0, 1) := by decide +kernel
theorem dX7_isAtRest_21 : decode cX7_isAtRest 21 = .ok (.isub, 1) := by decide +kernel
theorem dX7_isAtRest_22 : decode cX7_isAtRest 22 = .ok (.goto 4, 3) := by decide +kernel
theorem dX7_isAtRest_25 : decode cX7_isAtRest 25 = .ok (.iconst 0, 1) := by decide +kernel
theorem dX7_isAtRest_26 : decode cX7_isAtRest 26 = .ok (.istore 5, 2) := by decide +kernel
theorem dX7_isAtRest_28 : decode cX7_isAtRest 28 = .ok (.iconst 0, 1) := by decide +kernel
theorem dX7_isAtRest_29 : decode cX7_isAtRest 29 = .ok (.istore 6, 2) := by decide +kernel
theorem dX7_isAtRest_31 : decode cX7_isAtRest 31 = .ok (.iload 6, 2) := by decide +kernel
theorem dX7_isAtRest_33 : decode cX7_isAtRest 33 = .ok (.bipush 10, 2) := by decide +kernel
theorem dX7_isAtRest_35 : decode cX7_isAtRest 35 = .ok (.if_icmp .ge 47, 3) := by decide +kernel
theorem dX7_isAtRest_38 : decode cX7_isAtRest 38 = .ok (.iload 6, 2) := by decide +kernel
theorem dX7_isAtRest_40 : decode cX7_isAtRest 40 = .ok (.iload_n 1, 1) := by decide +kernel
theorem dX7_isAtRest_41 : decode cX7_isAtRest 41 = .ok (.if_icmp .lt 9, 3) := by decide +kernel
theorem dX7_isAtRest_44 : decode cX7_isAtRest 44 = .ok (.iload_n 2, 1) := by decide +kernel
theorem dX7_isAtRest_45 : decode cX7_isAtRest 45 = .ok (.iload_n 1, 1) := by decide +kernel
theorem dX7_isAtRest_46 : decode cX7_isAtRest 46 = .ok (.isub, 1) := by decide +kernel
theorem dX7_isAtRest_47 : decode cX7_isAtRest 47 = .ok (.goto 4, 3) := by decide +kernel
theorem dX7_isAtRest_50 : decode cX7_isAtRest 50 = .ok (.iconst 0, 1) := by decide +kernel
theorem dX7_isAtRest_51 : decode cX7_isAtRest 51 = .ok (.iload 4, 2) := by decide +kernel
theorem dX7_isAtRest_53 : decode cX7_isAtRest 53 = .ok (.if_icmp .gt 21, 3) := by decide +kernel
theorem dX7_isAtRest_56 : decode cX7_isAtRest 56 = .ok (.iload 6, 2) := by decide +kernel
theorem dX7_isAtRest_58 : decode cX7_isAtRest 58 = .ok (.iload_n 0, 1) := by decide +kernel
theorem dX7_isAtRest_59 : decode cX7_isAtRest 59 = .ok (.if_icmp .le 9, 3) := by decide +kernel
theorem dX7_isAtRest_62 : decode cX7_isAtRest 62 = .ok (.iload_n 3, 1) := by decide +kernel
theorem dX7_isAtRest_63 : decode cX7_isAtRest 63 = .ok (.iload_n 0, 1) := by decide +kernel
theorem dX7_isAtRest_64 : decode cX7_isAtRest 64 = .ok (.isub, 1) := by decide +kernel
theorem dX7_isAtRest_65 : decode cX7_isAtRest 65 = .ok (.goto 4, 3) := by decide +kernel
theorem dX7_isAtRest_68 : decode cX7_isAtRest 68 = .ok (.iconst 0, 1) := by decide +kernel
theorem dX7_isAtRest_69 : decode cX7_isAtRest 69 = .ok (.iload 5, 2) := by decide +kernel
theorem dX7_isAtRest_71 : decode cX7_isAtRest 71 = .ok (.if_icmp .le 5, 3) := by decide +kernel
theorem dX7_isAtRest_74 : decode cX7_isAtRest 74 = .ok (.iconst 0, 1) := by decide +kernel
theorem dX7_isAtRest_75 : decode cX7_isAtRest 75 = .ok (.ireturn, 1) := by decide +kernel
theorem dX7_isAtRest_76 : decode cX7_isAtRest 76 = .ok (.iinc 6 1, 3) := by decide +kernel
theorem dX7_isAtRest_79 : decode cX7_isAtRest 79 = .ok (.goto (-48), 3) := by decide +kernel
theorem dX7_isAtRest_82 : decode cX7_isAtRest 82 = .ok (.iconst 1, 1) := by decide +kernel
theorem dX7_isAtRest_83 : decode cX7_isAtRest 83 = .ok (.ireturn, 1) := by decide +kernel
theorem dX7_isDigit_0 : decode cX7_isDigit 0 = .ok (.iload_n 0, 1) := by decide +kernel
theorem dX7_isDigit_1 : decode cX7_isDigit 1 = .ok (.bipush 48, 2) := by decide +kernel
theorem dX7_isDigit_3 : decode cX7_isDigit 3 = .ok (.if_icmp .lt 13, 3) := by decide +kernel
theorem dX7_isDigit_6 : decode cX7_isDigit 6 = .ok (.iload_n 0, 1) := by decide +kernel
theorem dX7_isDigit_7 : decode cX7_isDigit 7 = .ok (.bipush 57, 2) := by decide +kernel
theorem dX7_isDigit_9 : decode cX7_isDigit 9 = .ok (.if_icmp .gt 7, 3) := by decide +kernel
theorem dX7_isDigit_12 : decode cX7_isDigit 12 = .ok (.iconst 1, 1) := by decide +kernel
theorem dX7_isDigit_13 : decode cX7_isDigit 13 = .ok (.goto 4, 3) := by decide +kernel
theorem dX7_isDigit_16 : decode cX7_isDigit 16 = .ok (.iconst 0, 1) := by decide +kernel
theorem dX7_isDigit_17 : decode cX7_isDigit 17 = .ok (.ireturn, 1) := by decide +kernel
theorem dX7_isHour_0 : decode cX7_isHour 0 = .ok (.iload_n 0, 1) := by decide +kernel
theorem dX7_isHour_1 : decode cX7_isHour 1 = .ok (.ifCond .lt 13, 3) := by decide +kernel
theorem dX7_isHour_4 : decode cX7_isHour 4 = .ok (.iload_n 0, 1) := by decide +kernel
theorem dX7_isHour_5 : decode cX7_isHour 5 = .ok (.bipush 8, 2) := by decide +kernel
theorem dX7_isHour_7 : decode cX7_isHour 7 = .ok (.if_icmp .ge 7, 3) := by decide +kernel
theorem dX7_isHour_10 : decode cX7_isHour 10 = .ok (.iconst 1, 1) := by decide +kernel
theorem dX7_isHour_11 : decode cX7_isHour 11 = .ok (.goto 4, 3) := by decide +kernel
theorem dX7_isHour_14 : decode cX7_isHour 14 = .ok (.iconst 0, 1) := by decide +kernel
theorem dX7_isHour_15 : decode cX7_isHour 15 = .ok (.ireturn, 1) := by decide +kernel
theorem dX7_keep_0 : decode cX7_keep 0 = .ok (.iload_n 1, 1) := by decide +kernel
theorem dX7_keep_1 : decode cX7_keep 1 = .ok (.ifCond .lt 8, 3) := by decide +kernel
theorem dX7_keep_4 : decode cX7_keep 4 = .ok (.iload_n 1, 1) := by decide +kernel
theorem dX7_keep_5 : decode cX7_keep 5 = .ok (.iconst 2, 1) := by decide +kernel
theorem dX7_keep_6 : decode cX7_keep 6 = .ok (.if_icmp .lt 5, 3) := by decide +kernel
theorem dX7_keep_9 : decode cX7_keep 9 = .ok (.iconst 0, 1) := by decide +kernel
theorem dX7_keep_10 : decode cX7_keep 10 = .ok (.ireturn, 1) := by decide +kernel
theorem dX7_keep_11 : decode cX7_keep 11 = .ok (.aload_n 0, 1) := by decide +kernel
theorem dX7_keep_12 : decode cX7_keep 12 = .ok (.getfield 43, 3) := by decide +kernel
theorem dX7_keep_15 : decode cX7_keep 15 = .ok (.iload_n 1, 1) := by decide +kernel
theorem dX7_keep_16 : decode cX7_keep 16 = .ok (.aaload, 1) := by decide +kernel
theorem dX7_keep_17 : decode cX7_keep 17 = .ok (.aload_n 0, 1) := by decide +kernel
theorem dX7_keep_18 : decode cX7_keep 18 = .ok (.getfield 26, 3) := by decide +kernel
theorem dX7_keep_21 : decode cX7_keep 21 = .ok (.invokevirtual 170, 3) := by decide +kernel
theorem dX7_keep_24 : decode cX7_keep 24 = .ok (.aload_n 0, 1) := by decide +kernel
theorem dX7_keep_25 : decode cX7_keep 25 = .ok (.getfield 47, 3) := by decide +kernel
theorem dX7_keep_28 : decode cX7_keep 28 = .ok (.iload_n 1, 1) := by decide +kernel
theorem dX7_keep_29 : decode cX7_keep 29 = .ok (.iconst 1, 1) := by decide +kernel
theorem dX7_keep_30 : decode cX7_keep 30 = .ok (.bastore, 1) := by decide +kernel
theorem dX7_keep_31 : decode cX7_keep 31 = .ok (.iconst 1, 1) := by decide +kernel
theorem dX7_keep_32 : decode cX7_keep 32 = .ok (.ireturn, 1) := by decide +kernel
theorem dX7_keystone_0 : decode cX7_keystone 0 = .ok (.iload_n 1, 1) := by decide +kernel
theorem dX7_keystone_1 : decode cX7_keystone 1 = .ok (.ifCond .lt 9, 3) := by decide +kernel
theorem dX7_keystone_4 : decode cX7_keystone 4 = .ok (.iload_n 1, 1) := by decide +kernel
theorem dX7_keystone_5 : decode cX7_keystone 5 = .ok (.bipush 10, 2) := by decide +kernel
theorem dX7_keystone_7 : decode cX7_keystone 7 = .ok (.if_icmp .le 5, 3) := by decide +kernel
theorem dX7_keystone_10 : decode cX7_keystone 10 = .ok (.iconst (-1), 1) := by decide +kernel
theorem dX7_keystone_11 : decode cX7_keystone 11 = .ok (.ireturn, 1) := by decide +kernel
theorem dX7_keystone_12 : decode cX7_keystone 12 = .ok (.aload_n 0, 1) := by decide +kernel
theorem dX7_keystone_13 : decode cX7_keystone 13 = .ok (.invokevirtual 313, 3) := by decide +kernel
theorem dX7_keystone_16 : decode cX7_keystone 16 = .ok (.istore_n 2, 1) := by decide +kernel
theorem dX7_keystone_17 : decode cX7_keystone 17 = .ok (.iload_n 2, 1) := by decide +kernel
theorem dX7_keystone_18 : decode cX7_keystone 18 = .ok (.ifCond .ne 6, 3) := by decide +kernel
theorem dX7_keystone_21 : decode cX7_keystone 21 = .ok (.bipush (-2), 2) := by decide +kernel
theorem dX7_keystone_23 : decode cX7_keystone 23 = .ok (.ireturn, 1) := by decide +kernel
theorem dX7_keystone_24 : decode cX7_keystone 24 = .ok (.aload_n 0, 1) := by decide +kernel
theorem dX7_keystone_25 : decode cX7_keystone 25 = .ok (.iconst (-1), 1) := by decide +kernel
theorem dX7_keystone_26 : decode cX7_keystone 26 = .ok (.invokevirtual 268, 3) := by decide +kernel
theorem dX7_keystone_29 : decode cX7_keystone 29 = .ok (.aload_n 0, 1) := by decide +kernel
theorem dX7_keystone_30 : decode cX7_keystone 30 = .ok (.getfield 54, 3) := by decide +kernel
theorem dX7_keystone_33 : decode cX7_keystone 33 = .ok (.invokevirtual 367, 3) := by decide +kernel
theorem dX7_keystone_36 : decode cX7_keystone 36 = .ok (.bipush 10, 2) := by decide +kernel
theorem dX7_keystone_38 : decode cX7_keystone 38 = .ok (.iload_n 2, 1) := by decide +kernel
theorem dX7_keystone_39 : decode cX7_keystone 39 = .ok (.invokestatic 193, 3) := by decide +kernel
theorem dX7_keystone_42 : decode cX7_keystone 42 = .ok (.invokestatic 374, 3) := by decide +kernel
theorem dX7_keystone_45 : decode cX7_keystone 45 = .ok (.lstore_n 3, 1) := by decide +kernel
theorem dX7_keystone_46 : decode cX7_keystone 46 = .ok (.iconst 0, 1) := by decide +kernel
theorem dX7_keystone_47 : decode cX7_keystone 47 = .ok (.istore 5, 2) := by decide +kernel
theorem dX7_keystone_49 : decode cX7_keystone 49 = .ok (.iconst 0, 1) := by decide +kernel
theorem dX7_keystone_50 : decode cX7_keystone 50 = .ok (.istore 6, 2) := by decide +kernel
theorem dX7_keystone_52 : decode cX7_keystone 52 = .ok (.iload 6, 2) := by decide +kernel
theorem dX7_keystone_54 : decode cX7_keystone 54 = .ok (.aload_n 0, 1) := by decide +kernel
theorem dX7_keystone_55 : decode cX7_keystone 55 = .ok (.getfield 19, 3) := by decide +kernel
theorem dX7_keystone_58 : decode cX7_keystone 58 = .ok (.getfield 154, 3) := by decide +kernel
theorem dX7_keystone_61 : decode cX7_keystone 61 = .ok (.if_icmp .ge 48, 3) := by decide +kernel
theorem dX7_keystone_64 : decode cX7_keystone 64 = .ok (.iload_n 2, 1) := by decide +kernel
theorem dX7_keystone_65 : decode cX7_keystone 65 = .ok (.iload 6, 2) := by decide +kernel
theorem dX7_keystone_67 : decode cX7_keystone 67 = .ok (.ishr, 1) := by decide +kernel
theorem dX7_keystone_68 : decode cX7_keystone 68 = .ok (.iconst 1, 1) := by decide +kernel
theorem dX7_keystone_69 : decode cX7_keystone 69 = .ok (.iand, 1) := by decide +kernel
theorem dX7_keystone_70 : decode cX7_keystone 70 = .ok (.iconst 1, 1) := by decide +kernel
theorem dX7_keystone_71 : decode cX7_keystone 71 = .ok (.if_icmp .ne 32, 3) := by decide +kernel
theorem dX7_keystone_74 : decode cX7_keystone 74 = .ok (.aload_n 0, 1) := by decide +kernel
theorem dX7_keystone_75 : decode cX7_keystone 75 = .ok (.iload_n 2, 1) := by decide +kernel
theorem dX7_keystone_76 : decode cX7_keystone 76 = .ok (.iconst 1, 1) := by decide +kernel
theorem dX7_keystone_77 : decode cX7_keystone 77 = .ok (.iload 6, 2) := by decide +kernel
theorem dX7_keystone_79 : decode cX7_keystone 79 = .ok (.ishl, 1) := by decide +kernel
theorem dX7_keystone_80 : decode cX7_keystone 80 = .ok (.iconst (-1), 1) := by decide +kernel
theorem dX7_keystone_81 : decode cX7_keystone 81 = .ok (.ixor, 1) := by decide +kernel
theorem dX7_keystone_82 : decode cX7_keystone 82 = .ok (.iand, 1) := by decide +kernel
theorem dX7_keystone_83 : decode cX7_keystone 83 = .ok (.iload_n 1, 1) := by decide +kernel
theorem dX7_keystone_84 : decode cX7_keystone 84 = .ok (.invokevirtual 370, 3) := by decide +kernel
theorem dX7_keystone_87 : decode cX7_keystone 87 = .ok (.lstore 7, 2) := by decide +kernel
theorem dX7_keystone_89 : decode cX7_keystone 89 = .ok (.lload 7, 2) := by decide +kernel
theorem dX7_keystone_91 : decode cX7_keystone 91 = .ok (.lload_n 3, 1) := by decide +kernel
theorem dX7_keystone_92 : decode cX7_keystone 92 = .ok (.lcmp, 1) := by decide +kernel
theorem dX7_keystone_93 : decode cX7_keystone 93 = .ok (.ifCond .ge 10, 3) := by decide +kernel
theorem dX7_keystone_96 : decode cX7_keystone 96 = .ok (.lload 7, 2) := by decide +kernel
theorem dX7_keystone_98 : decode cX7_keystone 98 = .ok (.lstore_n 3, 1) := by decide +kernel
theorem dX7_keystone_99 : decode cX7_keystone 99 = .ok (.iload 6, 2) := by decide +kernel
theorem dX7_keystone_101 : decode cX7_keystone 101 = .ok (.istore 5, 2) := by decide +kernel
theorem dX7_keystone_103 : decode cX7_keystone 103 = .ok (.iinc 6 1, 3) := by decide +kernel
theorem dX7_keystone_106 : decode cX7_keystone 106 = .ok (.goto (-54), 3) := by decide +kernel
theorem dX7_keystone_109 : decode cX7_keystone 109 = .ok (.aload_n 0, 1) := by decide +kernel
theorem dX7_keystone_110 : decode cX7_keystone 110 = .ok (.lload_n 3, 1) := by decide +kernel
theorem dX7_keystone_111 : decode cX7_keystone 111 = .ok (.bipush 10, 2) := by decide +kernel
theorem dX7_keystone_113 : decode cX7_keystone 113 = .ok (.iload_n 2, 1) := by decide +kernel
theorem dX7_keystone_114 : decode cX7_keystone 114 = .ok (.invokestatic 193, 3) := by decide +kernel
theorem dX7_keystone_117 : decode cX7_keystone 117 = .ok (.iconst 1, 1) := by decide +kernel
theorem dX7_keystone_118 : decode cX7_keystone 118 = .ok (.isub, 1) := by decide +kernel
theorem dX7_keystone_119 : decode cX7_keystone 119 = .ok (.invokestatic 374, 3) := by decide +kernel
theorem dX7_keystone_122 : decode cX7_keystone 122 = .ok (.invokevirtual 358, 3) := by decide +kernel
theorem dX7_keystone_125 : decode cX7_keystone 125 = .ok (.iload 5, 2) := by decide +kernel
theorem dX7_keystone_127 : decode cX7_keystone 127 = .ok (.ireturn, 1) := by decide +kernel
theorem dX7_later_0 : decode cX7_later 0 = .ok (.iload_n 1, 1) := by decide +kernel
theorem dX7_later_1 : decode cX7_later 1 = .ok (.ifCond .lt 9, 3) := by decide +kernel
theorem dX7_later_4 : decode cX7_later 4 = .ok (.iload_n 1, 1) := by decide +kernel
theorem dX7_later_5 : decode cX7_later 5 = .ok (.bipush 60, 2) := by decide +kernel
theorem dX7_later_7 : decode cX7_later 7 = .ok (.if_icmp .le 5, 3) := by decide +kernel
theorem dX7_later_10 : decode cX7_later 10 = .ok (.iconst (-1), 1) := by decide +kernel
theorem dX7_later_11 : decode cX7_later 11 = .ok (.ireturn, 1) := by decide +kernel
theorem dX7_later_12 : decode cX7_later 12 = .ok (.aload_n 0, 1) := by decide +kernel
theorem dX7_later_13 : decode cX7_later 13 = .ok (.getfield 33, 3) := by decide +kernel
theorem dX7_later_16 : decode cX7_later 16 = .ok (.aload_n 0, 1) := by decide +kernel
theorem dX7_later_17 : decode cX7_later 17 = .ok (.getfield 26, 3) := by decide +kernel
theorem dX7_later_20 : decode cX7_later 20 = .ok (.invokevirtual 170, 3) := by decide +kernel
theorem dX7_later_23 : decode cX7_later 23 = .ok (.aload_n 0, 1) := by decide +kernel
theorem dX7_later_24 : decode cX7_later 24 = .ok (.getfield 19, 3) := by decide +kernel
theorem dX7_later_27 : decode cX7_later 27 = .ok (.aload_n 0, 1) := by decide +kernel
theorem dX7_later_28 : decode cX7_later 28 = .ok (.getfield 33, 3) := by decide +kernel
theorem dX7_later_31 : decode cX7_later 31 = .ok (.iload_n 1, 1) := by decide +kernel
theorem dX7_later_32 : decode cX7_later 32 = .ok (.invokevirtual 204, 3) := by decide +kernel
theorem dX7_later_35 : decode cX7_later 35 = .ok (.aload_n 0, 1) := by decide +kernel
theorem dX7_later_36 : decode cX7_later 36 = .ok (.getfield 61, 3) := by decide +kernel
theorem dX7_later_39 : decode cX7_later 39 = .ok (.aload_n 0, 1) := by decide +kernel
theorem dX7_later_40 : decode cX7_later 40 = .ok (.getfield 33, 3) := by decide +kernel
theorem dX7_later_43 : decode cX7_later 43 = .ok (.invokevirtual 164, 3) := by decide +kernel
theorem dX7_later_46 : decode cX7_later 46 = .ok (.i2l, 1) := by decide +kernel
theorem dX7_later_47 : decode cX7_later 47 = .ok (.aload_n 0, 1) := by decide +kernel
theorem dX7_later_48 : decode cX7_later 48 = .ok (.getfield 33, 3) := by decide +kernel
theorem dX7_later_51 : decode cX7_later 51 = .ok (.invokevirtual 250, 3) := by decide +kernel
theorem dX7_later_54 : decode cX7_later 54 = .ok (.i2l, 1) := by decide +kernel
theorem dX7_later_55 : decode cX7_later 55 = .ok (.invokevirtual 208, 3) := by decide +kernel
theorem dX7_later_58 : decode cX7_later 58 = .ok (.aload_n 0, 1) := by decide +kernel
theorem dX7_later_59 : decode cX7_later 59 = .ok (.getfield 33, 3) := by decide +kernel
theorem dX7_later_62 : decode cX7_later 62 = .ok (.getfield 198, 3) := by decide +kernel
theorem dX7_later_65 : decode cX7_later 65 = .ok (.aload_n 0, 1) := by decide +kernel
theorem dX7_later_66 : decode cX7_later 66 = .ok (.getfield 26, 3) := by decide +kernel
theorem dX7_later_69 : decode cX7_later 69 = .ok (.getfield 198, 3) := by decide +kernel
theorem dX7_later_72 : decode cX7_later 72 = .ok (.isub, 1) := by decide +kernel
theorem dX7_later_73 : decode cX7_later 73 = .ok (.ireturn, 1) := by decide +kernel
theorem dX7_law_0 : decode cX7_law 0 = .ok (.aload_n 0, 1) := by decide +kernel
theorem dX7_law_1 : decode cX7_law 1 = .ok (.invokevirtual 103, 3) := by decide +kernel
theorem dX7_law_4 : decode cX7_law 4 = .ok (.istore_n 1, 1) := by decide +kernel
theorem dX7_law_5 : decode cX7_law 5 = .ok (.iload_n 1, 1) := by decide +kernel
theorem dX7_law_6 : decode cX7_law 6 = .ok (.iconst (-1), 1) := by decide +kernel
theorem dX7_law_7 : decode cX7_law 7 = .ok (.if_icmp .eq 9, 3) := by decide +kernel
theorem dX7_law_10 : decode cX7_law 10 = .ok (.sipush (-10000), 3) := by decide +kernel
theorem dX7_law_13 : decode cX7_law 13 = .ok (.iload_n 1, 1) := by decide +kernel
theorem dX7_law_14 : decode cX7_law 14 = .ok (.isub, 1) := by decide +kernel
theorem dX7_law_15 : decode cX7_law 15 = .ok (.ireturn, 1) := by decide +kernel
theorem dX7_law_16 : decode cX7_law 16 = .ok (.aload_n 0, 1) := by decide +kernel
theorem dX7_law_17 : decode cX7_law 17 = .ok (.aload_n 0, 1) := by decide +kernel
theorem dX7_law_18 : decode cX7_law 18 = .ok (.getfield 78, 3) := by decide +kernel
theorem dX7_law_21 : decode cX7_law 21 = .ok (.invokevirtual 381, 3) := by decide +kernel
theorem dX7_law_24 : decode cX7_law 24 = .ok (.istore_n 2, 1) := by decide +kernel
theorem dX7_law_25 : decode cX7_law 25 = .ok (.aload_n 0, 1) := by decide +kernel
theorem dX7_law_26 : decode cX7_law 26 = .ok (.aload_n 0, 1) := by decide +kernel
theorem dX7_law_27 : decode cX7_law 27 = .ok (.getfield 19, 3) := by decide +kernel
theorem dX7_law_30 : decode cX7_law 30 = .ok (.getfield 107, 3) := by decide +kernel
theorem dX7_law_33 : decode cX7_law 33 = .ok (.invokevirtual 381, 3) := by decide +kernel
theorem dX7_law_36 : decode cX7_law 36 = .ok (.istore_n 3, 1) := by decide +kernel
theorem dX7_law_37 : decode cX7_law 37 = .ok (.aload_n 0, 1) := by decide +kernel
theorem dX7_law_38 : decode cX7_law 38 = .ok (.getfield 61, 3) := by decide +kernel
theorem dX7_law_41 : decode cX7_law 41 = .ok (.iload_n 2, 1) := by decide +kernel
theorem dX7_law_42 : decode cX7_law 42 = .ok (.i2l, 1) := by decide +kernel
theorem dX7_law_43 : decode cX7_law 43 = .ok (.iload_n 3, 1) := by decide +kernel
theorem dX7_law_44 : decode cX7_law 44 = .ok (.i2l, 1) := by decide +kernel
theorem dX7_law_45 : decode cX7_law 45 = .ok (.invokevirtual 208, 3) := by decide +kernel
theorem dX7_law_48 : decode cX7_law 48 = .ok (.iload_n 2, 1) := by decide +kernel
theorem dX7_law_49 : decode cX7_law 49 = .ok (.iload_n 3, 1) := by decide +kernel
theorem dX7_law_50 : decode cX7_law 50 = .ok (.isub, 1) := by decide +kernel
theorem dX7_law_51 : decode cX7_law 51 = .ok (.ireturn, 1) := by decide +kernel
theorem dX7_leastHard_0 : decode cX7_leastHard 0 = .ok (.iconst (-1), 1) := by decide +kernel
theorem dX7_leastHard_1 : decode cX7_leastHard 1 = .ok (.istore_n 3, 1) := by decide +kernel
theorem dX7_leastHard_2 : decode cX7_leastHard 2 = .ok (.sipush 1000, 3) := by decide +kernel
theorem dX7_leastHard_5 : decode cX7_leastHard 5 = .ok (.istore 4, 2) := by decide +kernel
theorem dX7_leastHard_7 : decode cX7_leastHard 7 = .ok (.iconst 0, 1) := by decide +kernel
theorem dX7_leastHard_8 : decode cX7_leastHard 8 = .ok (.istore 5, 2) := by decide +kernel
theorem dX7_leastHard_10 : decode cX7_leastHard 10 = .ok (.iload 5, 2) := by decide +kernel
theorem dX7_leastHard_12 : decode cX7_leastHard 12 = .ok (.aload_n 0, 1) := by decide +kernel
theorem dX7_leastHard_13 : decode cX7_leastHard 13 = .ok (.getfield 19, 3) := by decide +kernel
theorem dX7_leastHard_16 : decode cX7_leastHard 16 = .ok (.getfield 154, 3) := by decide +kernel
theorem dX7_leastHard_19 : decode cX7_leastHard 19 = .ok (.if_icmp .ge 59, 3) := by decide +kernel
theorem dX7_leastHard_22 : decode cX7_leastHard 22 = .ok (.iload_n 2, 1) := by decide +kernel
theorem dX7_leastHard_23 : decode cX7_leastHard 23 = .ok (.iload 5, 2) := by decide +kernel
theorem dX7_leastHard_25 : decode cX7_leastHard 25 = .ok (.ishr, 1) := by decide +kernel
theorem dX7_leastHard_26 : decode cX7_leastHard 26 = .ok (.iconst 1, 1) := by decide +kernel
theorem dX7_leastHard_27 : decode cX7_leastHard 27 = .ok (.iand, 1) := by decide +kernel
theorem dX7_leastHard_28 : decode cX7_leastHard 28 = .ok (.ifCond .ne 44, 3) := by decide +kernel
theorem dX7_leastHard_31 : decode cX7_leastHard 31 = .ok (.aload_n 0, 1) := by decide +kernel
theorem dX7_leastHard_32 : decode cX7_leastHard 32 = .ok (.getfield 19, 3) := by decide +kernel
theorem dX7_leastHard_35 : decode cX7_leastHard 35 = .ok (.aload_n 0, 1) := by decide +kernel
theorem dX7_leastHard_36 : decode cX7_leastHard 36 = .ok (.getfield 26, 3) := by decide +kernel
theorem dX7_leastHard_39 : decode cX7_leastHard 39 = .ok (.iload 5, 2) := by decide +kernel
theorem dX7_leastHard_41 : decode cX7_leastHard 41 = .ok (.iload_n 1, 1) := by decide +kernel
theorem dX7_leastHard_42 : decode cX7_leastHard 42 = .ok (.invokevirtual 332, 3) := by decide +kernel
theorem dX7_leastHard_45 : decode cX7_leastHard 45 = .ok (.ifCond .eq 27, 3) := by decide +kernel
theorem dX7_leastHard_48 : decode cX7_leastHard 48 = .ok (.aload_n 0, 1) := by decide +kernel
theorem dX7_leastHard_49 : decode cX7_leastHard 49 = .ok (.iload 5, 2) := by decide +kernel
theorem dX7_leastHard_51 : decode cX7_leastHard 51 = .ok (.iload_n 1, 1) := by decide +kernel
theorem dX7_leastHard_52 : decode cX7_leastHard 52 = .ok (.invokevirtual 137, 3) := by decide +kernel
theorem dX7_leastHard_55 : decode cX7_leastHard 55 = .ok (.iload 4, 2) := by decide +kernel
theorem dX7_leastHard_57 : decode cX7_leastHard 57 = .ok (.if_icmp .ge 15, 3) := by decide +kernel
theorem dX7_leastHard_60 : decode cX7_leastHard 60 = .ok (.aload_n 0, 1) := by decide +kernel
theorem dX7_leastHard_61 : decode cX7_leastHard 61 = .ok (.iload 5, 2) := by decide +kernel
theorem dX7_leastHard_63 : decode cX7_leastHard 63 = .ok (.iload_n 1, 1) := by decide +kernel
theorem dX7_leastHard_64 : decode cX7_leastHard 64 = .ok (.invokevirtual 137, 3) := by decide +kernel
theorem dX7_leastHard_67 : decode cX7_leastHard 67 = .ok (.istore 4, 2) := by decide +kernel
theorem dX7_leastHard_69 : decode cX7_leastHard 69 = .ok (.iload 5, 2) := by decide +kernel
theorem dX7_leastHard_71 : decode cX7_leastHard 71 = .ok (.istore_n 3, 1) := by decide +kernel
theorem dX7_leastHard_72 : decode cX7_leastHard 72 = .ok (.iinc 5 1, 3) := by decide +kernel
theorem dX7_leastHard_75 : decode cX7_leastHard 75 = .ok (.goto (-65), 3) := by decide +kernel
theorem dX7_leastHard_78 : decode cX7_leastHard 78 = .ok (.iload_n 3, 1) := by decide +kernel
theorem dX7_leastHard_79 : decode cX7_leastHard 79 = .ok (.ireturn, 1) := by decide +kernel
theorem dX7_lowest_0 : decode cX7_lowest 0 = .ok (.iload_n 0, 1) := by decide +kernel
theorem dX7_lowest_1 : decode cX7_lowest 1 = .ok (.iload_n 0, 1) := by decide +kernel
theorem dX7_lowest_2 : decode cX7_lowest 2 = .ok (.ineg, 1) := by decide +kernel
theorem dX7_lowest_3 : decode cX7_lowest 3 = .ok (.iand, 1) := by decide +kernel
theorem dX7_lowest_4 : decode cX7_lowest 4 = .ok (.iconst 1, 1) := by decide +kernel
theorem dX7_lowest_5 : decode cX7_lowest 5 = .ok (.isub, 1) := by decide +kernel
theorem dX7_lowest_6 : decode cX7_lowest 6 = .ok (.invokestatic 193, 3) := by decide +kernel
theorem dX7_lowest_9 : decode cX7_lowest 9 = .ok (.ireturn, 1) := by decide +kernel
theorem dX7_meets_0 : decode cX7_meets 0 = .ok (.aload_n 0, 1) := by decide +kernel
theorem dX7_meets_1 : decode cX7_meets 1 = .ok (.getfield 19, 3) := by decide +kernel
theorem dX7_meets_4 : decode cX7_meets 4 = .ok (.iload_n 1, 1) := by decide +kernel
theorem dX7_meets_5 : decode cX7_meets 5 = .ok (.iload_n 2, 1) := by decide +kernel
theorem dX7_meets_6 : decode cX7_meets 6 = .ok (.invokevirtual 328, 3) := by decide +kernel
theorem dX7_meets_9 : decode cX7_meets 9 = .ok (.ifCond .eq 14, 3) := by decide +kernel
theorem dX7_meets_12 : decode cX7_meets 12 = .ok (.iload_n 3, 1) := by decide +kernel
theorem dX7_meets_13 : decode cX7_meets 13 = .ok (.iconst 2, 1) := by decide +kernel
theorem dX7_meets_14 : decode cX7_meets 14 = .ok (.if_icmp .lt 9, 3) := by decide +kernel
theorem dX7_meets_17 : decode cX7_meets 17 = .ok (.iload_n 3, 1) := by decide +kernel
theorem dX7_meets_18 : decode cX7_meets 18 = .ok (.bipush 40, 2) := by decide +kernel
theorem dX7_meets_20 : decode cX7_meets 20 = .ok (.if_icmp .le 5, 3) := by decide +kernel
theorem dX7_meets_23 : decode cX7_meets 23 = .ok (.iconst (-1), 1) := by decide +kernel
theorem dX7_meets_24 : decode cX7_meets 24 = .ok (.ireturn, 1) := by decide +kernel
theorem dX7_meets_25 : decode cX7_meets 25 = .ok (.iconst 0, 1) := by decide +kernel
theorem dX7_meets_26 : decode cX7_meets 26 = .ok (.istore 4, 2) := by decide +kernel
theorem dX7_meets_28 : decode cX7_meets 28 = .ok (.iconst 0, 1) := by decide +kernel
theorem dX7_meets_29 : decode cX7_meets 29 = .ok (.istore 5, 2) := by decide +kernel
theorem dX7_meets_31 : decode cX7_meets 31 = .ok (.sipush 999, 3) := by decide +kernel
theorem dX7_meets_34 : decode cX7_meets 34 = .ok (.istore 6, 2) := by decide +kernel
theorem dX7_meets_36 : decode cX7_meets 36 = .ok (.iload 6, 2) := by decide +kernel
theorem dX7_meets_38 : decode cX7_meets 38 = .ok (.iconst 1, 1) := by decide +kernel
theorem dX7_meets_39 : decode cX7_meets 39 = .ok (.if_icmp .lt 51, 3) := by decide +kernel
theorem dX7_meets_42 : decode cX7_meets 42 = .ok (.aload_n 0, 1) := by decide +kernel
theorem dX7_meets_43 : decode cX7_meets 43 = .ok (.getfield 19, 3) := by decide +kernel
theorem dX7_meets_46 : decode cX7_meets 46 = .ok (.getfield 119, 3) := by decide +kernel
theorem dX7_meets_49 : decode cX7_meets 49 = .ok (.iload_n 1, 1) := by decide +kernel
theorem dX7_meets_50 : decode cX7_meets 50 = .ok (.iaload, 1) := by decide +kernel
theorem dX7_meets_51 : decode cX7_meets 51 = .ok (.iload 6, 2) := by decide +kernel
theorem dX7_meets_53 : decode cX7_meets 53 = .ok (.imul, 1) := by decide +kernel
theorem dX7_meets_54 : decode cX7_meets 54 = .ok (.iload_n 1, 1) := by decide +kernel
theorem dX7_meets_55 : decode cX7_meets 55 = .ok (.iadd, 1) := by decide +kernel
theorem dX7_meets_56 : decode cX7_meets 56 = .ok (.iload_n 3, 1) := by decide +kernel
theorem dX7_meets_57 : decode cX7_meets 57 = .ok (.irem, 1) := by decide +kernel
theorem dX7_meets_58 : decode cX7_meets 58 = .ok (.aload_n 0, 1) := by decide +kernel
theorem dX7_meets_59 : decode cX7_meets 59 = .ok (.getfield 19, 3) := by decide +kernel
theorem dX7_meets_62 : decode cX7_meets 62 = .ok (.getfield 119, 3) := by decide +kernel
theorem dX7_meets_65 : decode cX7_meets 65 = .ok (.iload_n 2, 1) := by decide +kernel
theorem dX7_meets_66 : decode cX7_meets 66 = .ok (.iaload, 1) := by decide +kernel
theorem dX7_meets_67 : decode cX7_meets 67 = .ok (.iload 6, 2) := by decide +kernel
theorem dX7_meets_69 : decode cX7_meets 69 = .ok (.imul, 1) := by decide +kernel
theorem dX7_meets_70 : decode cX7_meets 70 = .ok (.iload_n 2, 1) := by decide +kernel
theorem dX7_meets_71 : decode cX7_meets 71 = .ok (.iadd, 1) := by decide +kernel
theorem dX7_meets_72 : decode cX7_meets 72 = .ok (.iload_n 3, 1) := by decide +kernel
theorem dX7_meets_73 : decode cX7_meets 73 = .ok (.irem, 1) := by decide +kernel
theorem dX7_meets_74 : decode cX7_meets 74 = .ok (.if_icmp .ne 10, 3) := by decide +kernel
theorem dX7_meets_77 : decode cX7_meets 77 = .ok (.iload 6, 2) := by decide +kernel
theorem dX7_meets_79 : decode cX7_meets 79 = .ok (.istore 4, 2) := by decide +kernel
theorem dX7_meets_81 : decode cX7_meets 81 = .ok (.iinc 5 1, 3) := by decide +kernel
theorem dX7_meets_84 : decode cX7_meets 84 = .ok (.iinc 6 (-1), 3) := by decide +kernel
theorem dX7_meets_87 : decode cX7_meets 87 = .ok (.goto (-51), 3) := by decide +kernel
theorem dX7_meets_90 : decode cX7_meets 90 = .ok (.iload 5, 2) := by decide +kernel
theorem dX7_meets_92 : decode cX7_meets 92 = .ok (.ifCond .ne 6, 3) := by decide +kernel
theorem dX7_meets_95 : decode cX7_meets 95 = .ok (.bipush (-2), 2) := by decide +kernel
theorem dX7_meets_97 : decode cX7_meets 97 = .ok (.ireturn, 1) := by decide +kernel
theorem dX7_meets_98 : decode cX7_meets 98 = .ok (.aload_n 0, 1) := by decide +kernel
theorem dX7_meets_99 : decode cX7_meets 99 = .ok (.getfield 61, 3) := by decide +kernel
theorem dX7_meets_102 : decode cX7_meets 102 = .ok (.aload_n 0, 1) := by decide +kernel
theorem dX7_meets_103 : decode cX7_meets 103 = .ok (.getfield 19, 3) := by decide +kernel
theorem dX7_meets_106 : decode cX7_meets 106 = .ok (.getfield 119, 3) := by decide +kernel
theorem dX7_meets_109 : decode cX7_meets 109 = .ok (.iload_n 1, 1) := by decide +kernel
theorem dX7_meets_110 : decode cX7_meets 110 = .ok (.iaload, 1) := by decide +kernel
theorem dX7_meets_111 : decode cX7_meets 111 = .ok (.iload 4, 2) := by decide +kernel
theorem dX7_meets_113 : decode cX7_meets 113 = .ok (.imul, 1) := by decide +kernel
theorem dX7_meets_114 : decode cX7_meets 114 = .ok (.iload_n 1, 1) := by decide +kernel
theorem dX7_meets_115 : decode cX7_meets 115 = .ok (.iadd, 1) := by decide +kernel
theorem dX7_meets_116 : decode cX7_meets 116 = .ok (.iload_n 3, 1) := by decide +kernel
theorem dX7_meets_117 : decode cX7_meets 117 = .ok (.irem, 1) := by decide +kernel
theorem dX7_meets_118 : decode cX7_meets 118 = .ok (.i2l, 1) := by decide +kernel
theorem dX7_meets_119 : decode cX7_meets 119 = .ok (.iload 5, 2) := by decide +kernel
theorem dX7_meets_121 : decode cX7_meets 121 = .ok (.i2l, 1) := by decide +kernel
theorem dX7_meets_122 : decode cX7_meets 122 = .ok (.invokevirtual 208, 3) := by decide +kernel
theorem dX7_meets_125 : decode cX7_meets 125 = .ok (.iload 4, 2) := by decide +kernel
theorem dX7_meets_127 : decode cX7_meets 127 = .ok (.ireturn, 1) := by decide +kernel
theorem dX7_mended_0 : decode cX7_mended 0 = .ok (.aload_n 0, 1) := by decide +kernel
theorem dX7_mended_1 : decode cX7_mended 1 = .ok (.getfield 19, 3) := by decide +kernel
theorem dX7_mended_4 : decode cX7_mended 4 = .ok (.iload_n 1, 1) := by decide +kernel
theorem dX7_mended_5 : decode cX7_mended 5 = .ok (.invokevirtual 110, 3) := by decide +kernel
theorem dX7_mended_8 : decode cX7_mended 8 = .ok (.ifCond .ne 5, 3) := by decide +kernel
theorem dX7_mended_11 : decode cX7_mended 11 = .ok (.iconst (-1), 1) := by decide +kernel
theorem dX7_mended_12 : decode cX7_mended 12 = .ok (.ireturn, 1) := by decide +kernel
theorem dX7_mended_13 : decode cX7_mended 13 = .ok (.aload_n 0, 1) := by decide +kernel
theorem dX7_mended_14 : decode cX7_mended 14 = .ok (.iload_n 1, 1) := by decide +kernel
theorem dX7_mended_15 : decode cX7_mended 15 = .ok (.invokevirtual 268, 3) := by decide +kernel
theorem dX7_mended_18 : decode cX7_mended 18 = .ok (.aload_n 0, 1) := by decide +kernel
theorem dX7_mended_19 : decode cX7_mended 19 = .ok (.invokevirtual 290, 3) := by decide +kernel
theorem dX7_mended_22 : decode cX7_mended 22 = .ok (.aload_n 0, 1) := by decide +kernel
theorem dX7_mended_23 : decode cX7_mended 23 = .ok (.getfield 54, 3) := by decide +kernel
theorem dX7_mended_26 : decode cX7_mended 26 = .ok (.invokevirtual 275, 3) := by decide +kernel
theorem dX7_mended_29 : decode cX7_mended 29 = .ok (.lstore_n 2, 1) := by decide +kernel
theorem dX7_mended_30 : decode cX7_mended 30 = .ok (.lload_n 2, 1) := by decide +kernel
theorem dX7_mended_31 : decode cX7_mended 31 = .ok (.ldc2_w 262, 3) := by decide +kernel
theorem dX7_mended_34 : decode cX7_mended 34 = .ok (.lcmp, 1) := by decide +kernel
theorem dX7_mended_35 : decode cX7_mended 35 = .ok (.ifCond .lt 8, 3) := by decide +kernel
theorem dX7_mended_38 : decode cX7_mended 38 = .ok (.bipush (-2), 2) := by decide +kernel
theorem dX7_mended_40 : decode cX7_mended 40 = .ok (.goto 8, 3) := by decide +kernel
theorem dX7_mended_43 : decode cX7_mended 43 = .ok (.aload_n 0, 1) := by decide +kernel
theorem dX7_mended_44 : decode cX7_mended 44 = .ok (.lload_n 2, 1) := by decide +kernel
theorem dX7_mended_45 : decode cX7_mended 45 = .ok (.invokevirtual 264, 3) := by decide +kernel
theorem dX7_mended_48 : decode cX7_mended 48 = .ok (.ireturn, 1) := by decide +kernel
theorem dX7_missed_0 : decode cX7_missed 0 = .ok (.aload_n 0, 1) := by decide +kernel
theorem dX7_missed_1 : decode cX7_missed 1 = .ok (.getfield 19, 3) := by decide +kernel
theorem dX7_missed_4 : decode cX7_missed 4 = .ok (.iload_n 1, 1) := by decide +kernel
theorem dX7_missed_5 : decode cX7_missed 5 = .ok (.invokevirtual 110, 3) := by decide +kernel
theorem dX7_missed_8 : decode cX7_missed 8 = .ok (.ifCond .ne 5, 3) := by decide +kernel
theorem dX7_missed_11 : decode cX7_missed 11 = .ok (.iconst (-1), 1) := by decide +kernel
theorem dX7_missed_12 : decode cX7_missed 12 = .ok (.ireturn, 1) := by decide +kernel
theorem dX7_missed_13 : decode cX7_missed 13 = .ok (.aload_n 0, 1) := by decide +kernel
theorem dX7_missed_14 : decode cX7_missed 14 = .ok (.iconst (-1), 1) := by decide +kernel
theorem dX7_missed_15 : decode cX7_missed 15 = .ok (.invokevirtual 258, 3) := by decide +kernel
theorem dX7_missed_18 : decode cX7_missed 18 = .ok (.lstore_n 2, 1) := by decide +kernel
theorem dX7_missed_19 : decode cX7_missed 19 = .ok (.aload_n 0, 1) := by decide +kernel
theorem dX7_missed_20 : decode cX7_missed 20 = .ok (.iload_n 1, 1) := by decide +kernel
theorem dX7_missed_21 : decode cX7_missed 21 = .ok (.invokevirtual 258, 3) := by decide +kernel
theorem dX7_missed_24 : decode cX7_missed 24 = .ok (.lstore 4, 2) := by decide +kernel
theorem dX7_missed_26 : decode cX7_missed 26 = .ok (.lload_n 2, 1) := by decide +kernel
theorem dX7_missed_27 : decode cX7_missed 27 = .ok (.ldc2_w 262, 3) := by decide +kernel
theorem dX7_missed_30 : decode cX7_missed 30 = .ok (.lcmp, 1) := by decide +kernel
theorem dX7_missed_31 : decode cX7_missed 31 = .ok (.ifCond .ge 12, 3) := by decide +kernel
theorem dX7_missed_34 : decode cX7_missed 34 = .ok (.lload 4, 2) := by decide +kernel
theorem dX7_missed_36 : decode cX7_missed 36 = .ok (.ldc2_w 262, 3) := by decide +kernel
theorem dX7_missed_39 : decode cX7_missed 39 = .ok (.lcmp, 1) := by decide +kernel
theorem dX7_missed_40 : decode cX7_missed 40 = .ok (.ifCond .lt 6, 3) := by decide +kernel
theorem dX7_missed_43 : decode cX7_missed 43 = .ok (.bipush (-2), 2) := by decide +kernel
theorem dX7_missed_45 : decode cX7_missed 45 = .ok (.ireturn, 1) := by decide +kernel
theorem dX7_missed_46 : decode cX7_missed 46 = .ok (.lload 4, 2) := by decide +kernel
theorem dX7_missed_48 : decode cX7_missed 48 = .ok (.invokestatic 297, 3) := by decide +kernel
theorem dX7_missed_51 : decode cX7_missed 51 = .ok (.lload_n 2, 1) := by decide +kernel
theorem dX7_missed_52 : decode cX7_missed 52 = .ok (.invokestatic 297, 3) := by decide +kernel
theorem dX7_missed_55 : decode cX7_missed 55 = .ok (.isub, 1) := by decide +kernel
theorem dX7_missed_56 : decode cX7_missed 56 = .ok (.ireturn, 1) := by decide +kernel
theorem dX7_nights_0 : decode cX7_nights 0 = .ok (.iload_n 1, 1) := by decide +kernel
theorem dX7_nights_1 : decode cX7_nights 1 = .ok (.ifCond .lt 9, 3) := by decide +kernel
theorem dX7_nights_4 : decode cX7_nights 4 = .ok (.iload_n 1, 1) := by decide +kernel
theorem dX7_nights_5 : decode cX7_nights 5 = .ok (.bipush 30, 2) := by decide +kernel
theorem dX7_nights_7 : decode cX7_nights 7 = .ok (.if_icmp .le 5, 3) := by decide +kernel
theorem dX7_nights_10 : decode cX7_nights 10 = .ok (.iconst (-1), 1) := by decide +kernel
theorem dX7_nights_11 : decode cX7_nights 11 = .ok (.ireturn, 1) := by decide +kernel
theorem dX7_nights_12 : decode cX7_nights 12 = .ok (.iload_n 1, 1) := by decide +kernel
theorem dX7_nights_13 : decode cX7_nights 13 = .ok (.ifCond .le 14, 3) := by decide +kernel
theorem dX7_nights_16 : decode cX7_nights 16 = .ok (.aload_n 0, 1) := by decide +kernel
theorem dX7_nights_17 : decode cX7_nights 17 = .ok (.getfield 39, 3) := by decide +kernel
theorem dX7_nights_20 : decode cX7_nights 20 = .ok (.aload_n 0, 1) := by decide +kernel
theorem dX7_nights_21 : decode cX7_nights 21 = .ok (.getfield 26, 3) := by decide +kernel
theorem dX7_nights_24 : decode cX7_nights 24 = .ok (.invokevirtual 177, 3) := by decide +kernel
theorem dX7_nights_27 : decode cX7_nights 27 = .ok (.aload_n 0, 1) := by decide +kernel
theorem dX7_nights_28 : decode cX7_nights 28 = .ok (.getfield 26, 3) := by decide +kernel
theorem dX7_nights_31 : decode cX7_nights 31 = .ok (.getfield 198, 3) := by decide +kernel
theorem dX7_nights_34 : decode cX7_nights 34 = .ok (.istore_n 2, 1) := by decide +kernel
theorem dX7_nights_35 : decode cX7_nights 35 = .ok (.aload_n 0, 1) := by decide +kernel
theorem dX7_nights_36 : decode cX7_nights 36 = .ok (.getfield 26, 3) := by decide +kernel
theorem dX7_nights_39 : decode cX7_nights 39 = .ok (.getfield 201, 3) := by decide +kernel
theorem dX7_nights_42 : decode cX7_nights 42 = .ok (.istore_n 3, 1) := by decide +kernel
theorem dX7_nights_43 : decode cX7_nights 43 = .ok (.aload_n 0, 1) := by decide +kernel
theorem dX7_nights_44 : decode cX7_nights 44 = .ok (.getfield 19, 3) := by decide +kernel
theorem dX7_nights_47 : decode cX7_nights 47 = .ok (.aload_n 0, 1) := by decide +kernel
theorem dX7_nights_48 : decode cX7_nights 48 = .ok (.getfield 26, 3) := by decide +kernel
theorem dX7_nights_51 : decode cX7_nights 51 = .ok (.iload_n 1, 1) := by decide +kernel
theorem dX7_nights_52 : decode cX7_nights 52 = .ok (.invokevirtual 204, 3) := by decide +kernel
theorem dX7_nights_55 : decode cX7_nights 55 = .ok (.aload_n 0, 1) := by decide +kernel
theorem dX7_nights_56 : decode cX7_nights 56 = .ok (.getfield 61, 3) := by decide +kernel
theorem dX7_nights_59 : decode cX7_nights 59 = .ok (.aload_n 0, 1) := by decide +kernel
theorem dX7_nights_60 : decode cX7_nights 60 = .ok (.getfield 26, 3) := by decide +kernel
theorem dX7_nights_63 : decode cX7_nights 63 = .ok (.getfield 201, 3) := by decide +kernel
theorem dX7_nights_66 : decode cX7_nights 66 = .ok (.iload_n 3, 1) := by decide +kernel
theorem dX7_nights_67 : decode cX7_nights 67 = .ok (.isub, 1) := by decide +kernel
theorem dX7_nights_68 : decode cX7_nights 68 = .ok (.i2l, 1) := by decide +kernel
theorem dX7_nights_69 : decode cX7_nights 69 = .ok (.aload_n 0, 1) := by decide +kernel
theorem dX7_nights_70 : decode cX7_nights 70 = .ok (.getfield 26, 3) := by decide +kernel
theorem dX7_nights_73 : decode cX7_nights 73 = .ok (.invokevirtual 164, 3) := by decide +kernel
theorem dX7_nights_76 : decode cX7_nights 76 = .ok (.i2l, 1) := by decide +kernel
theorem dX7_nights_77 : decode cX7_nights 77 = .ok (.invokevirtual 208, 3) := by decide +kernel
theorem dX7_nights_80 : decode cX7_nights 80 = .ok (.aload_n 0, 1) := by decide +kernel
theorem dX7_nights_81 : decode cX7_nights 81 = .ok (.getfield 26, 3) := by decide +kernel
theorem dX7_nights_84 : decode cX7_nights 84 = .ok (.getfield 198, 3) := by decide +kernel
theorem dX7_nights_87 : decode cX7_nights 87 = .ok (.iload_n 2, 1) := by decide +kernel
theorem dX7_nights_88 : decode cX7_nights 88 = .ok (.isub, 1) := by decide +kernel
theorem dX7_nights_89 : decode cX7_nights 89 = .ok (.ireturn, 1) := by decide +kernel
theorem dX7_openFitting_0 : decode cX7_openFitting 0 = .ok (.aload_n 0, 1) := by decide +kernel
theorem dX7_openFitting_1 : decode cX7_openFitting 1 = .ok (.iconst (-1), 1) := by decide +kernel
theorem dX7_openFitting_2 : decode cX7_openFitting 2 = .ok (.invokevirtual 268, 3) := by decide +kernel
theorem dX7_openFitting_5 : decode cX7_openFitting 5 = .ok (.iconst 0, 1) := by decide +kernel
theorem dX7_openFitting_6 : decode cX7_openFitting 6 = .ok (.istore_n 1, 1) := by decide +kernel
theorem dX7_openFitting_7 : decode cX7_openFitting 7 = .ok (.iload_n 1, 1) := by decide +kernel
theorem dX7_openFitting_8 : decode cX7_openFitting 8 = .ok (.aload_n 0, 1) := by decide +kernel
theorem dX7_openFitting_9 : decode cX7_openFitting 9 = .ok (.getfield 345, 3) := by decide +kernel
theorem dX7_openFitting_12 : decode cX7_openFitting 12 = .ok (.if_icmp .ge 60, 3) := by decide +kernel
theorem dX7_openFitting_15 : decode cX7_openFitting 15 = .ok (.aload_n 0, 1) := by decide +kernel
theorem dX7_openFitting_16 : decode cX7_openFitting 16 = .ok (.getfield 72, 3) := by decide +kernel
theorem dX7_openFitting_19 : decode cX7_openFitting 19 = .ok (.iload_n 1, 1) := by decide +kernel
theorem dX7_openFitting_20 : decode cX7_openFitting 20 = .ok (.iaload, 1) := by decide +kernel
theorem dX7_openFitting_21 : decode cX7_openFitting 21 = .ok (.iconst 1, 1) := by decide +kernel
theorem dX7_openFitting_22 : decode cX7_openFitting 22 = .ok (.if_icmp .ne 25, 3) := by decide +kernel
theorem dX7_openFitting_25 : decode cX7_openFitting 25 = .ok (.aload_n 0, 1) := by decide +kernel
theorem dX7_openFitting_26 : decode cX7_openFitting 26 = .ok (.getfield 54, 3) := by decide +kernel
theorem dX7_openFitting_29 : decode cX7_openFitting 29 = .ok (.aload_n 0, 1) := by decide +kernel
theorem dX7_openFitting_30 : decode cX7_openFitting 30 = .ok (.getfield 65, 3) := by decide +kernel
theorem dX7_openFitting_33 : decode cX7_openFitting 33 = .ok (.iload_n 1, 1) := by decide +kernel
theorem dX7_openFitting_34 : decode cX7_openFitting 34 = .ok (.iaload, 1) := by decide +kernel
theorem dX7_openFitting_35 : decode cX7_openFitting 35 = .ok (.aload_n 0, 1) := by decide +kernel
theorem dX7_openFitting_36 : decode cX7_openFitting 36 = .ok (.getfield 69, 3) := by decide +kernel
theorem dX7_openFitting_39 : decode cX7_openFitting 39 = .ok (.iload_n 1, 1) := by decide +kernel
theorem dX7_openFitting_40 : decode cX7_openFitting 40 = .ok (.iaload, 1) := by decide +kernel
theorem dX7_openFitting_41 : decode cX7_openFitting 41 = .ok (.invokevirtual 354, 3) := by decide +kernel
theorem dX7_openFitting_44 : decode cX7_openFitting 44 = .ok (.goto 22, 3) := by decide +kernel
theorem dX7_openFitting_47 : decode cX7_openFitting 47 = .ok (.aload_n 0, 1) := by decide +kernel
theorem dX7_openFitting_48 : decode cX7_openFitting 48 = .ok (.getfield 54, 3) := by decide +kernel
theorem dX7_openFitting_51 : decode cX7_openFitting 51 = .ok (.aload_n 0, 1) := by decide +kernel
theorem dX7_openFitting_52 : decode cX7_openFitting 52 = .ok (.getfield 65, 3) := by decide +kernel
theorem dX7_openFitting_55 : decode cX7_openFitting 55 = .ok (.iload_n 1, 1) := by decide +kernel
theorem dX7_openFitting_56 : decode cX7_openFitting 56 = .ok (.iaload, 1) := by decide +kernel
theorem dX7_openFitting_57 : decode cX7_openFitting 57 = .ok (.aload_n 0, 1) := by decide +kernel
theorem dX7_openFitting_58 : decode cX7_openFitting 58 = .ok (.getfield 69, 3) := by decide +kernel
theorem dX7_openFitting_61 : decode cX7_openFitting 61 = .ok (.iload_n 1, 1) := by decide +kernel
theorem dX7_openFitting_62 : decode cX7_openFitting 62 = .ok (.iaload, 1) := by decide +kernel
theorem dX7_openFitting_63 : decode cX7_openFitting 63 = .ok (.invokevirtual 437, 3) := by decide +kernel
theorem dX7_openFitting_66 : decode cX7_openFitting 66 = .ok (.iinc 1 1, 3) := by decide +kernel
theorem dX7_openFitting_69 : decode cX7_openFitting 69 = .ok (.goto (-62), 3) := by decide +kernel
theorem dX7_openFitting_72 : decode cX7_openFitting 72 = .ok (.return_, 1) := by decide +kernel
theorem dX7_openSeats_0 : decode cX7_openSeats 0 = .ok (.aload_n 0, 1) := by decide +kernel
theorem dX7_openSeats_1 : decode cX7_openSeats 1 = .ok (.getfield 54, 3) := by decide +kernel
theorem dX7_openSeats_4 : decode cX7_openSeats 4 = .ok (.aload_n 0, 1) := by decide +kernel
theorem dX7_openSeats_5 : decode cX7_openSeats 5 = .ok (.getfield 19, 3) := by decide +kernel
theorem dX7_openSeats_8 : decode cX7_openSeats 8 = .ok (.getfield 141, 3) := by decide +kernel
theorem dX7_openSeats_11 : decode cX7_openSeats 11 = .ok (.invokevirtual 430, 3) := by decide +kernel
theorem dX7_openSeats_14 : decode cX7_openSeats 14 = .ok (.iconst 0, 1) := by decide +kernel
theorem dX7_openSeats_15 : decode cX7_openSeats 15 = .ok (.istore_n 2, 1) := by decide +kernel
theorem dX7_openSeats_16 : decode cX7_openSeats 16 = .ok (.iload_n 2, 1) := by decide +kernel
theorem dX7_openSeats_17 : decode cX7_openSeats 17 = .ok (.aload_n 0, 1) := by decide +kernel
theorem dX7_openSeats_18 : decode cX7_openSeats 18 = .ok (.getfield 19, 3) := by decide +kernel
theorem dX7_openSeats_21 : decode cX7_openSeats 21 = .ok (.getfield 154, 3) := by decide +kernel
theorem dX7_openSeats_24 : decode cX7_openSeats 24 = .ok (.if_icmp .ge 65, 3) := by decide +kernel
theorem dX7_openSeats_27 : decode cX7_openSeats 27 = .ok (.iload_n 2, 1) := by decide +kernel
theorem dX7_openSeats_28 : decode cX7_openSeats 28 = .ok (.iload_n 1, 1) := by decide +kernel
theorem dX7_openSeats_29 : decode cX7_openSeats 29 = .ok (.if_icmp .eq 18, 3) := by decide +kernel
theorem dX7_openSeats_32 : decode cX7_openSeats 32 = .ok (.aload_n 0, 1) := by decide +kernel
theorem dX7_openSeats_33 : decode cX7_openSeats 33 = .ok (.getfield 26, 3) := by decide +kernel
theorem dX7_openSeats_36 : decode cX7_openSeats 36 = .ok (.iload_n 2, 1) := by decide +kernel
theorem dX7_openSeats_37 : decode cX7_openSeats 37 = .ok (.invokevirtual 128, 3) := by decide +kernel
theorem dX7_openSeats_40 : decode cX7_openSeats 40 = .ok (.ifCond .ne 7, 3) := by decide +kernel
theorem dX7_openSeats_43 : decode cX7_openSeats 43 = .ok (.iconst 1, 1) := by decide +kernel
theorem dX7_openSeats_44 : decode cX7_openSeats 44 = .ok (.goto 4, 3) := by decide +kernel
theorem dX7_openSeats_47 : decode cX7_openSeats 47 = .ok (.iconst 0, 1) := by decide +kernel
theorem dX7_openSeats_48 : decode cX7_openSeats 48 = .ok (.istore_n 3, 1) := by decide +kernel
theorem dX7_openSeats_49 : decode cX7_openSeats 49 = .ok (.aload_n 0, 1) := by decide +kernel
theorem dX7_openSeats_50 : decode cX7_openSeats 50 = .ok (.getfield 54, 3) := by decide +kernel
theorem dX7_openSeats_53 : decode cX7_openSeats 53 = .ok (.iload_n 2, 1) := by decide +kernel
theorem dX7_openSeats_54 : decode cX7_openSeats 54 = .ok (.iload_n 3, 1) := by decide +kernel
theorem dX7_openSeats_55 : decode cX7_openSeats 55 = .ok (.ifCond .eq 15, 3) := by decide +kernel
theorem dX7_openSeats_58 : decode cX7_openSeats 58 = .ok (.aload_n 0, 1) := by decide +kernel
theorem dX7_openSeats_59 : decode cX7_openSeats 59 = .ok (.getfield 19, 3) := by decide +kernel
theorem dX7_openSeats_62 : decode cX7_openSeats 62 = .ok (.getfield 122, 3) := by decide +kernel
theorem dX7_openSeats_65 : decode cX7_openSeats 65 = .ok (.iload_n 2, 1) := by decide +kernel
theorem dX7_openSeats_66 : decode cX7_openSeats 66 = .ok (.iaload, 1) := by decide +kernel
theorem dX7_openSeats_67 : decode cX7_openSeats 67 = .ok (.goto 4, 3) := by decide +kernel
theorem dX7_openSeats_70 : decode cX7_openSeats 70 = .ok (.iconst 0, 1) := by decide +kernel
theorem dX7_openSeats_71 : decode cX7_openSeats 71 = .ok (.aload_n 0, 1) := by decide +kernel
theorem dX7_openSeats_72 : decode cX7_openSeats 72 = .ok (.getfield 19, 3) := by decide +kernel
theorem dX7_openSeats_75 : decode cX7_openSeats 75 = .ok (.getfield 116, 3) := by decide +kernel
theorem dX7_openSeats_78 : decode cX7_openSeats 78 = .ok (.iload_n 2, 1) := by decide +kernel
theorem dX7_openSeats_79 : decode cX7_openSeats 79 = .ok (.iaload, 1) := by decide +kernel
theorem dX7_openSeats_80 : decode cX7_openSeats 80 = .ok (.invokevirtual 433, 3) := by decide +kernel
theorem dX7_openSeats_83 : decode cX7_openSeats 83 = .ok (.iinc 2 1, 3) := by decide +kernel
theorem dX7_openSeats_86 : decode cX7_openSeats 86 = .ok (.goto (-70), 3) := by decide +kernel
theorem dX7_openSeats_89 : decode cX7_openSeats 89 = .ok (.return_, 1) := by decide +kernel
theorem dX7_paid_0 : decode cX7_paid 0 = .ok (.aload_n 0, 1) := by decide +kernel
theorem dX7_paid_1 : decode cX7_paid 1 = .ok (.getfield 19, 3) := by decide +kernel
theorem dX7_paid_4 : decode cX7_paid 4 = .ok (.iload_n 1, 1) := by decide +kernel
theorem dX7_paid_5 : decode cX7_paid 5 = .ok (.invokevirtual 110, 3) := by decide +kernel
theorem dX7_paid_8 : decode cX7_paid 8 = .ok (.ifCond .ne 5, 3) := by decide +kernel
theorem dX7_paid_11 : decode cX7_paid 11 = .ok (.iconst (-1), 1) := by decide +kernel
theorem dX7_paid_12 : decode cX7_paid 12 = .ok (.ireturn, 1) := by decide +kernel
theorem dX7_paid_13 : decode cX7_paid 13 = .ok (.aload_n 0, 1) := by decide +kernel
theorem dX7_paid_14 : decode cX7_paid 14 = .ok (.iconst (-1), 1) := by decide +kernel
theorem dX7_paid_15 : decode cX7_paid 15 = .ok (.invokevirtual 258, 3) := by decide +kernel
theorem dX7_paid_18 : decode cX7_paid 18 = .ok (.lstore_n 2, 1) := by decide +kernel
theorem dX7_paid_19 : decode cX7_paid 19 = .ok (.aload_n 0, 1) := by decide +kernel
theorem dX7_paid_20 : decode cX7_paid 20 = .ok (.iload_n 1, 1) := by decide +kernel
theorem dX7_paid_21 : decode cX7_paid 21 = .ok (.invokevirtual 258, 3) := by decide +kernel
theorem dX7_paid_24 : decode cX7_paid 24 = .ok (.lstore 4, 2) := by decide +kernel
theorem dX7_paid_26 : decode cX7_paid 26 = .ok (.lload_n 2, 1) := by decide +kernel
theorem dX7_paid_27 : decode cX7_paid 27 = .ok (.ldc2_w 262, 3) := by decide +kernel
theorem dX7_paid_30 : decode cX7_paid 30 = .ok (.lcmp, 1) := by decide +kernel
theorem dX7_paid_31 : decode cX7_paid 31 = .ok (.ifCond .ge 12, 3) := by decide +kernel
theorem dX7_paid_34 : decode cX7_paid 34 = .ok (.lload 4, 2) := by decide +kernel
theorem dX7_paid_36 : decode cX7_paid 36 = .ok (.ldc2_w 262, 3) := by decide +kernel
theorem dX7_paid_39 : decode cX7_paid 39 = .ok (.lcmp, 1) := by decide +kernel
theorem dX7_paid_40 : decode cX7_paid 40 = .ok (.ifCond .lt 6, 3) := by decide +kernel
theorem dX7_paid_43 : decode cX7_paid 43 = .ok (.bipush (-2), 2) := by decide +kernel
theorem dX7_paid_45 : decode cX7_paid 45 = .ok (.ireturn, 1) := by decide +kernel
theorem dX7_paid_46 : decode cX7_paid 46 = .ok (.iconst 0, 1) := by decide +kernel
theorem dX7_paid_47 : decode cX7_paid 47 = .ok (.istore 6, 2) := by decide +kernel
theorem dX7_paid_49 : decode cX7_paid 49 = .ok (.iconst 0, 1) := by decide +kernel
theorem dX7_paid_50 : decode cX7_paid 50 = .ok (.istore 7, 2) := by decide +kernel
theorem dX7_paid_52 : decode cX7_paid 52 = .ok (.iload 7, 2) := by decide +kernel
theorem dX7_paid_54 : decode cX7_paid 54 = .ok (.aload_n 0, 1) := by decide +kernel
theorem dX7_paid_55 : decode cX7_paid 55 = .ok (.getfield 19, 3) := by decide +kernel
theorem dX7_paid_58 : decode cX7_paid 58 = .ok (.getfield 141, 3) := by decide +kernel
theorem dX7_paid_61 : decode cX7_paid 61 = .ok (.if_icmp .ge 35, 3) := by decide +kernel
theorem dX7_paid_64 : decode cX7_paid 64 = .ok (.iload 6, 2) := by decide +kernel
theorem dX7_paid_66 : decode cX7_paid 66 = .ok (.lload_n 2, 1) := by decide +kernel
theorem dX7_paid_67 : decode cX7_paid 67 = .ok (.iload 7, 2) := by decide +kernel
theorem dX7_paid_69 : decode cX7_paid 69 = .ok (.invokestatic 293, 3) := by decide +kernel
theorem dX7_paid_72 : decode cX7_paid 72 = .ok (.iload_n 1, 1) := by decide +kernel
theorem dX7_paid_73 : decode cX7_paid 73 = .ok (.if_icmp .ne 13, 3) := by decide +kernel
theorem dX7_paid_76 : decode cX7_paid 76 = .ok (.aload_n 0, 1) := by decide +kernel
theorem dX7_paid_77 : decode cX7_paid 77 = .ok (.iload_n 1, 1) := by decide +kernel
theorem dX7_paid_78 : decode cX7_paid 78 = .ok (.iload 7, 2) := by decide +kernel
theorem dX7_paid_80 : decode cX7_paid 80 = .ok (.invokevirtual 137, 3) := by decide +kernel
theorem dX7_paid_83 : decode cX7_paid 83 = .ok (.goto 4, 3) := by decide +kernel
theorem dX7_paid_86 : decode cX7_paid 86 = .ok (.iconst 0, 1) := by decide +kernel
theorem dX7_paid_87 : decode cX7_paid 87 = .ok (.iadd, 1) := by decide +kernel
theorem dX7_paid_88 : decode cX7_paid 88 = .ok (.istore 6, 2) := by decide +kernel
theorem dX7_paid_90 : decode cX7_paid 90 = .ok (.iinc 7 1, 3) := by decide +kernel
theorem dX7_paid_93 : decode cX7_paid 93 = .ok (.goto (-41), 3) := by decide +kernel
theorem dX7_paid_96 : decode cX7_paid 96 = .ok (.lload_n 2, 1) := by decide +kernel
theorem dX7_paid_97 : decode cX7_paid 97 = .ok (.invokestatic 297, 3) := by decide +kernel
theorem dX7_paid_100 : decode cX7_paid 100 = .ok (.iload 6, 2) := by decide +kernel
theorem dX7_paid_102 : decode cX7_paid 102 = .ok (.isub, 1) := by decide +kernel
theorem dX7_paid_103 : decode cX7_paid 103 = .ok (.istore 7, 2) := by decide +kernel
theorem dX7_paid_105 : decode cX7_paid 105 = .ok (.aload_n 0, 1) := by decide +kernel
theorem dX7_paid_106 : decode cX7_paid 106 = .ok (.getfield 61, 3) := by decide +kernel
theorem dX7_paid_109 : decode cX7_paid 109 = .ok (.iload 6, 2) := by decide +kernel
theorem dX7_paid_111 : decode cX7_paid 111 = .ok (.i2l, 1) := by decide +kernel
theorem dX7_paid_112 : decode cX7_paid 112 = .ok (.iload 7, 2) := by decide +kernel
theorem dX7_paid_114 : decode cX7_paid 114 = .ok (.i2l, 1) := by decide +kernel
theorem dX7_paid_115 : decode cX7_paid 115 = .ok (.invokevirtual 208, 3) := by decide +kernel
theorem dX7_paid_118 : decode cX7_paid 118 = .ok (.lload 4, 2) := by decide +kernel
theorem dX7_paid_120 : decode cX7_paid 120 = .ok (.invokestatic 297, 3) := by decide +kernel
theorem dX7_paid_123 : decode cX7_paid 123 = .ok (.iload 7, 2) := by decide +kernel
theorem dX7_paid_125 : decode cX7_paid 125 = .ok (.isub, 1) := by decide +kernel
theorem dX7_paid_126 : decode cX7_paid 126 = .ok (.ireturn, 1) := by decide +kernel
theorem dX7_power_0 : decode cX7_power 0 = .ok (.lconst 1, 1) := by decide +kernel
theorem dX7_power_1 : decode cX7_power 1 = .ok (.lstore_n 2, 1) := by decide +kernel
theorem dX7_power_2 : decode cX7_power 2 = .ok (.iconst 0, 1) := by decide +kernel
theorem dX7_power_3 : decode cX7_power 3 = .ok (.istore 4, 2) := by decide +kernel
theorem dX7_power_5 : decode cX7_power 5 = .ok (.iload 4, 2) := by decide +kernel
theorem dX7_power_7 : decode cX7_power 7 = .ok (.iload_n 1, 1) := by decide +kernel
theorem dX7_power_8 : decode cX7_power 8 = .ok (.if_icmp .ge 14, 3) := by decide +kernel
theorem dX7_power_11 : decode cX7_power 11 = .ok (.lload_n 2, 1) := by decide +kernel
theorem dX7_power_12 : decode cX7_power 12 = .ok (.iload_n 0, 1) := by decide +kernel
theorem dX7_power_13 : decode cX7_power 13 = .ok (.i2l, 1) := by decide +kernel
theorem dX7_power_14 : decode cX7_power 14 = .ok (.lmul, 1) := by decide +kernel
theorem dX7_power_15 : decode cX7_power 15 = .ok (.lstore_n 2, 1) := by decide +kernel
theorem dX7_power_16 : decode cX7_power 16 = .ok (.iinc 4 1, 3) := by decide +kernel
theorem dX7_power_19 : decode cX7_power 19 = .ok (.goto (-14), 3) := by decide +kernel
theorem dX7_power_22 : decode cX7_power 22 = .ok (.lload_n 2, 1) := by decide +kernel
theorem dX7_power_23 : decode cX7_power 23 = .ok (.lreturn, 1) := by decide +kernel
theorem dX7_priceByDifference_0 : decode cX7_priceByDifference 0 = .ok (.iconst 0, 1) := by decide +kernel
theorem dX7_priceByDifference_1 : decode cX7_priceByDifference 1 = .ok (.istore_n 1, 1) := by decide +kernel
theorem dX7_priceByDifference_2 : decode cX7_priceByDifference 2 = .ok (.iload_n 1, 1) := by decide +kernel
theorem dX7_priceByDifference_3 : decode cX7_priceByDifference 3 = .ok (.aload_n 0, 1) := by decide +kernel
theorem dX7_priceByDifference_4 : decode cX7_priceByDifference 4 = .ok (.getfield 19, 3) := by decide +kernel
theorem dX7_priceByDifference_7 : decode cX7_priceByDifference 7 = .ok (.getfield 154, 3) := by decide +kernel
theorem dX7_priceByDifference_10 : decode cX7_priceByDifference 10 = .ok (.if_icmp .ge 55, 3) := by decide +kernel
theorem dX7_priceByDifference_13 : decode cX7_priceByDifference 13 = .ok (.iconst 0, 1) := by decide +kernel
theorem dX7_priceByDifference_14 : decode cX7_priceByDifference 14 = .ok (.istore_n 2, 1) := by decide +kernel
theorem dX7_priceByDifference_15 : decode cX7_priceByDifference 15 = .ok (.iload_n 2, 1) := by decide +kernel
theorem dX7_priceByDifference_16 : decode cX7_priceByDifference 16 = .ok (.aload_n 0, 1) := by decide +kernel
theorem dX7_priceByDifference_17 : decode cX7_priceByDifference 17 = .ok (.getfield 19, 3) := by decide +kernel
theorem dX7_priceByDifference_20 : decode cX7_priceByDifference 20 = .ok (.getfield 141, 3) := by decide +kernel
theorem dX7_priceByDifference_23 : decode cX7_priceByDifference 23 = .ok (.if_icmp .ge 36, 3) := by decide +kernel
theorem dX7_priceByDifference_26 : decode cX7_priceByDifference 26 = .ok (.aload_n 0, 1) := by decide +kernel
theorem dX7_priceByDifference_27 : decode cX7_priceByDifference 27 = .ok (.getfield 54, 3) := by decide +kernel
theorem dX7_priceByDifference_30 : decode cX7_priceByDifference 30 = .ok (.iload_n 1, 1) := by decide +kernel
theorem dX7_priceByDifference_31 : decode cX7_priceByDifference 31 = .ok (.iload_n 2, 1) := by decide +kernel
theorem dX7_priceByDifference_32 : decode cX7_priceByDifference 32 = .ok (.aload_n 0, 1) := by decide +kernel
theorem dX7_priceByDifference_33 : decode cX7_priceByDifference 33 = .ok (.getfield 26, 3) := by decide +kernel
theorem dX7_priceByDifference_36 : decode cX7_priceByDifference 36 = .ok (.getfield 183, 3) := by decide +kernel
theorem dX7_priceByDifference_39 : decode cX7_priceByDifference 39 = .ok (.iload_n 2, 1) := by decide +kernel
theorem dX7_priceByDifference_40 : decode cX7_priceByDifference 40 = .ok (.iaload, 1) := by decide +kernel
theorem dX7_priceByDifference_41 : decode cX7_priceByDifference 41 = .ok (.iload_n 1, 1) := by decide +kernel
theorem dX7_priceByDifference_42 : decode cX7_priceByDifference 42 = .ok (.if_icmp .ne 7, 3) := by decide +kernel
theorem dX7_priceByDifference_45 : decode cX7_priceByDifference 45 = .ok (.iconst 0, 1) := by decide +kernel
theorem dX7_priceByDifference_46 : decode cX7_priceByDifference 46 = .ok (.goto 4, 3) := by decide +kernel
theorem dX7_priceByDifference_49 : decode cX7_priceByDifference 49 = .ok (.iconst 1, 1) := by decide +kernel
theorem dX7_priceByDifference_50 : decode cX7_priceByDifference 50 = .ok (.invokevirtual 440, 3) := by decide +kernel
theorem dX7_priceByDifference_53 : decode cX7_priceByDifference 53 = .ok (.iinc 2 1, 3) := by decide +kernel
theorem dX7_priceByDifference_56 : decode cX7_priceByDifference 56 = .ok (.goto (-41), 3) := by decide +kernel
theorem dX7_priceByDifference_59 : decode cX7_priceByDifference 59 = .ok (.iinc 1 1, 3) := by decide +kernel
theorem dX7_priceByDifference_62 : decode cX7_priceByDifference 62 = .ok (.goto (-60), 3) := by decide +kernel
theorem dX7_priceByDifference_65 : decode cX7_priceByDifference 65 = .ok (.return_, 1) := by decide +kernel
theorem dX7_priceByHard_0 : decode cX7_priceByHard 0 = .ok (.iconst 0, 1) := by decide +kernel
theorem dX7_priceByHard_1 : decode cX7_priceByHard 1 = .ok (.istore_n 1, 1) := by decide +kernel
theorem dX7_priceByHard_2 : decode cX7_priceByHard 2 = .ok (.iload_n 1, 1) := by decide +kernel
theorem dX7_priceByHard_3 : decode cX7_priceByHard 3 = .ok (.aload_n 0, 1) := by decide +kernel
theorem dX7_priceByHard_4 : decode cX7_priceByHard 4 = .ok (.getfield 19, 3) := by decide +kernel
theorem dX7_priceByHard_7 : decode cX7_priceByHard 7 = .ok (.getfield 154, 3) := by decide +kernel
theorem dX7_priceByHard_10 : decode cX7_priceByHard 10 = .ok (.if_icmp .ge 43, 3) := by decide +kernel
theorem dX7_priceByHard_13 : decode cX7_priceByHard 13 = .ok (.iconst 0, 1) := by decide +kernel
theorem dX7_priceByHard_14 : decode cX7_priceByHard 14 = .ok (.istore_n 2, 1) := by decide +kernel
theorem dX7_priceByHard_15 : decode cX7_priceByHard 15 = .ok (.iload_n 2, 1) := by decide +kernel
theorem dX7_priceByHard_16 : decode cX7_priceByHard 16 = .ok (.aload_n 0, 1) := by decide +kernel
theorem dX7_priceByHard_17 : decode cX7_priceByHard 17 = .ok (.getfield 19, 3) := by decide +kernel
theorem dX7_priceByHard_20 : decode cX7_priceByHard 20 = .ok (.getfield 141, 3) := by decide +kernel
