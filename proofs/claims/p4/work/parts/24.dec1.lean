theorem dX3_value_104 : decode cX3_value 104 = .ok (.iload_n 2, 1) := by decide +kernel
theorem dX3_value_105 : decode cX3_value 105 = .ok (.iconst 1, 1) := by decide +kernel
theorem dX3_value_106 : decode cX3_value 106 = .ok (.isub, 1) := by decide +kernel
theorem dX3_value_107 : decode cX3_value 107 = .ok (.iload 4, 2) := by decide +kernel
theorem dX3_value_109 : decode cX3_value 109 = .ok (.ineg, 1) := by decide +kernel
theorem dX3_value_110 : decode cX3_value 110 = .ok (.aload_n 0, 1) := by decide +kernel
theorem dX3_value_111 : decode cX3_value 111 = .ok (.getfield 18, 3) := by decide +kernel
theorem dX3_value_114 : decode cX3_value 114 = .ok (.iload_n 2, 1) := by decide +kernel
theorem dX3_value_115 : decode cX3_value 115 = .ok (.iconst 1, 1) := by decide +kernel
theorem dX3_value_116 : decode cX3_value 116 = .ok (.isub, 1) := by decide +kernel
theorem dX3_value_117 : decode cX3_value 117 = .ok (.iaload, 1) := by decide +kernel
theorem dX3_value_118 : decode cX3_value 118 = .ok (.aload_n 0, 1) := by decide +kernel
theorem dX3_value_119 : decode cX3_value 119 = .ok (.getfield 18, 3) := by decide +kernel
theorem dX3_value_122 : decode cX3_value 122 = .ok (.iload_n 2, 1) := by decide +kernel
theorem dX3_value_123 : decode cX3_value 123 = .ok (.iaload, 1) := by decide +kernel
theorem dX3_value_124 : decode cX3_value 124 = .ok (.invokestatic 118, 3) := by decide +kernel
theorem dX3_value_127 : decode cX3_value 127 = .ok (.iastore, 1) := by decide +kernel
theorem dX3_value_128 : decode cX3_value 128 = .ok (.iinc 3 1, 3) := by decide +kernel
theorem dX3_value_131 : decode cX3_value 131 = .ok (.goto (-127), 3) := by decide +kernel
theorem dX3_value_134 : decode cX3_value 134 = .ok (.aload_n 0, 1) := by decide +kernel
theorem dX3_value_135 : decode cX3_value 135 = .ok (.getfield 18, 3) := by decide +kernel
theorem dX3_value_138 : decode cX3_value 138 = .ok (.iconst 0, 1) := by decide +kernel
theorem dX3_value_139 : decode cX3_value 139 = .ok (.iaload, 1) := by decide +kernel
theorem dX3_value_140 : decode cX3_value 140 = .ok (.ireturn, 1) := by decide +kernel
theorem dX4_addLeast_0 : decode cX4_addLeast 0 = .ok (.aload_n 0, 1) := by decide +kernel
theorem dX4_addLeast_1 : decode cX4_addLeast 1 = .ok (.getfield 53, 3) := by decide +kernel
theorem dX4_addLeast_4 : decode cX4_addLeast 4 = .ok (.istore_n 2, 1) := by decide +kernel
theorem dX4_addLeast_5 : decode cX4_addLeast 5 = .ok (.iload_n 2, 1) := by decide +kernel
theorem dX4_addLeast_6 : decode cX4_addLeast 6 = .ok (.ifCond .le 79, 3) := by decide +kernel
theorem dX4_addLeast_9 : decode cX4_addLeast 9 = .ok (.iload_n 2, 1) := by decide +kernel
theorem dX4_addLeast_10 : decode cX4_addLeast 10 = .ok (.iload_n 1, 1) := by decide +kernel
theorem dX4_addLeast_11 : decode cX4_addLeast 11 = .ok (.iand, 1) := by decide +kernel
theorem dX4_addLeast_12 : decode cX4_addLeast 12 = .ok (.istore_n 3, 1) := by decide +kernel
theorem dX4_addLeast_13 : decode cX4_addLeast 13 = .ok (.aload_n 0, 1) := by decide +kernel
theorem dX4_addLeast_14 : decode cX4_addLeast 14 = .ok (.getfield 34, 3) := by decide +kernel
theorem dX4_addLeast_17 : decode cX4_addLeast 17 = .ok (.iload_n 2, 1) := by decide +kernel
theorem dX4_addLeast_18 : decode cX4_addLeast 18 = .ok (.laload, 1) := by decide +kernel
theorem dX4_addLeast_19 : decode cX4_addLeast 19 = .ok (.lstore 4, 2) := by decide +kernel
theorem dX4_addLeast_21 : decode cX4_addLeast 21 = .ok (.iload_n 3, 1) := by decide +kernel
theorem dX4_addLeast_22 : decode cX4_addLeast 22 = .ok (.istore 6, 2) := by decide +kernel
theorem dX4_addLeast_24 : decode cX4_addLeast 24 = .ok (.iload 6, 2) := by decide +kernel
theorem dX4_addLeast_26 : decode cX4_addLeast 26 = .ok (.ifCond .le 45, 3) := by decide +kernel
theorem dX4_addLeast_29 : decode cX4_addLeast 29 = .ok (.aload_n 0, 1) := by decide +kernel
theorem dX4_addLeast_30 : decode cX4_addLeast 30 = .ok (.getfield 34, 3) := by decide +kernel
theorem dX4_addLeast_33 : decode cX4_addLeast 33 = .ok (.iload_n 2, 1) := by decide +kernel
theorem dX4_addLeast_34 : decode cX4_addLeast 34 = .ok (.iload 6, 2) := by decide +kernel
theorem dX4_addLeast_36 : decode cX4_addLeast 36 = .ok (.ixor, 1) := by decide +kernel
theorem dX4_addLeast_37 : decode cX4_addLeast 37 = .ok (.laload, 1) := by decide +kernel
theorem dX4_addLeast_38 : decode cX4_addLeast 38 = .ok (.aload_n 0, 1) := by decide +kernel
theorem dX4_addLeast_39 : decode cX4_addLeast 39 = .ok (.getfield 31, 3) := by decide +kernel
theorem dX4_addLeast_42 : decode cX4_addLeast 42 = .ok (.iload 6, 2) := by decide +kernel
theorem dX4_addLeast_44 : decode cX4_addLeast 44 = .ok (.laload, 1) := by decide +kernel
theorem dX4_addLeast_45 : decode cX4_addLeast 45 = .ok (.ladd, 1) := by decide +kernel
theorem dX4_addLeast_46 : decode cX4_addLeast 46 = .ok (.lstore 7, 2) := by decide +kernel
theorem dX4_addLeast_48 : decode cX4_addLeast 48 = .ok (.lload 7, 2) := by decide +kernel
theorem dX4_addLeast_50 : decode cX4_addLeast 50 = .ok (.lload 4, 2) := by decide +kernel
theorem dX4_addLeast_52 : decode cX4_addLeast 52 = .ok (.lcmp, 1) := by decide +kernel
theorem dX4_addLeast_53 : decode cX4_addLeast 53 = .ok (.ifCond .ge 7, 3) := by decide +kernel
theorem dX4_addLeast_56 : decode cX4_addLeast 56 = .ok (.lload 7, 2) := by decide +kernel
theorem dX4_addLeast_58 : decode cX4_addLeast 58 = .ok (.lstore 4, 2) := by decide +kernel
theorem dX4_addLeast_60 : decode cX4_addLeast 60 = .ok (.iload 6, 2) := by decide +kernel
theorem dX4_addLeast_62 : decode cX4_addLeast 62 = .ok (.iconst 1, 1) := by decide +kernel
theorem dX4_addLeast_63 : decode cX4_addLeast 63 = .ok (.isub, 1) := by decide +kernel
theorem dX4_addLeast_64 : decode cX4_addLeast 64 = .ok (.iload_n 3, 1) := by decide +kernel
theorem dX4_addLeast_65 : decode cX4_addLeast 65 = .ok (.iand, 1) := by decide +kernel
theorem dX4_addLeast_66 : decode cX4_addLeast 66 = .ok (.istore 6, 2) := by decide +kernel
theorem dX4_addLeast_68 : decode cX4_addLeast 68 = .ok (.goto (-44), 3) := by decide +kernel
theorem dX4_addLeast_71 : decode cX4_addLeast 71 = .ok (.aload_n 0, 1) := by decide +kernel
theorem dX4_addLeast_72 : decode cX4_addLeast 72 = .ok (.getfield 34, 3) := by decide +kernel
theorem dX4_addLeast_75 : decode cX4_addLeast 75 = .ok (.iload_n 2, 1) := by decide +kernel
theorem dX4_addLeast_76 : decode cX4_addLeast 76 = .ok (.lload 4, 2) := by decide +kernel
theorem dX4_addLeast_78 : decode cX4_addLeast 78 = .ok (.lastore, 1) := by decide +kernel
theorem dX4_addLeast_79 : decode cX4_addLeast 79 = .ok (.iinc 2 (-1), 3) := by decide +kernel
theorem dX4_addLeast_82 : decode cX4_addLeast 82 = .ok (.goto (-77), 3) := by decide +kernel
theorem dX4_addLeast_85 : decode cX4_addLeast 85 = .ok (.return_, 1) := by decide +kernel
theorem dX4_addLeastMost_0 : decode cX4_addLeastMost 0 = .ok (.aload_n 0, 1) := by decide +kernel
theorem dX4_addLeastMost_1 : decode cX4_addLeastMost 1 = .ok (.getfield 53, 3) := by decide +kernel
theorem dX4_addLeastMost_4 : decode cX4_addLeastMost 4 = .ok (.istore_n 2, 1) := by decide +kernel
theorem dX4_addLeastMost_5 : decode cX4_addLeastMost 5 = .ok (.iload_n 2, 1) := by decide +kernel
theorem dX4_addLeastMost_6 : decode cX4_addLeastMost 6 = .ok (.ifCond .le 101, 3) := by decide +kernel
theorem dX4_addLeastMost_9 : decode cX4_addLeastMost 9 = .ok (.iload_n 2, 1) := by decide +kernel
theorem dX4_addLeastMost_10 : decode cX4_addLeastMost 10 = .ok (.iload_n 1, 1) := by decide +kernel
theorem dX4_addLeastMost_11 : decode cX4_addLeastMost 11 = .ok (.iand, 1) := by decide +kernel
theorem dX4_addLeastMost_12 : decode cX4_addLeastMost 12 = .ok (.istore_n 3, 1) := by decide +kernel
theorem dX4_addLeastMost_13 : decode cX4_addLeastMost 13 = .ok (.aload_n 0, 1) := by decide +kernel
theorem dX4_addLeastMost_14 : decode cX4_addLeastMost 14 = .ok (.getfield 34, 3) := by decide +kernel
theorem dX4_addLeastMost_17 : decode cX4_addLeastMost 17 = .ok (.iload_n 2, 1) := by decide +kernel
theorem dX4_addLeastMost_18 : decode cX4_addLeastMost 18 = .ok (.laload, 1) := by decide +kernel
theorem dX4_addLeastMost_19 : decode cX4_addLeastMost 19 = .ok (.lstore 4, 2) := by decide +kernel
theorem dX4_addLeastMost_21 : decode cX4_addLeastMost 21 = .ok (.iload_n 3, 1) := by decide +kernel
theorem dX4_addLeastMost_22 : decode cX4_addLeastMost 22 = .ok (.istore 6, 2) := by decide +kernel
theorem dX4_addLeastMost_24 : decode cX4_addLeastMost 24 = .ok (.iload 6, 2) := by decide +kernel
theorem dX4_addLeastMost_26 : decode cX4_addLeastMost 26 = .ok (.ifCond .le 67, 3) := by decide +kernel
theorem dX4_addLeastMost_29 : decode cX4_addLeastMost 29 = .ok (.aload_n 0, 1) := by decide +kernel
theorem dX4_addLeastMost_30 : decode cX4_addLeastMost 30 = .ok (.getfield 34, 3) := by decide +kernel
theorem dX4_addLeastMost_33 : decode cX4_addLeastMost 33 = .ok (.iload_n 2, 1) := by decide +kernel
theorem dX4_addLeastMost_34 : decode cX4_addLeastMost 34 = .ok (.iload 6, 2) := by decide +kernel
theorem dX4_addLeastMost_36 : decode cX4_addLeastMost 36 = .ok (.ixor, 1) := by decide +kernel
theorem dX4_addLeastMost_37 : decode cX4_addLeastMost 37 = .ok (.laload, 1) := by decide +kernel
theorem dX4_addLeastMost_38 : decode cX4_addLeastMost 38 = .ok (.aload_n 0, 1) := by decide +kernel
theorem dX4_addLeastMost_39 : decode cX4_addLeastMost 39 = .ok (.getfield 31, 3) := by decide +kernel
theorem dX4_addLeastMost_42 : decode cX4_addLeastMost 42 = .ok (.iload 6, 2) := by decide +kernel
theorem dX4_addLeastMost_44 : decode cX4_addLeastMost 44 = .ok (.laload, 1) := by decide +kernel
theorem dX4_addLeastMost_45 : decode cX4_addLeastMost 45 = .ok (.lcmp, 1) := by decide +kernel
theorem dX4_addLeastMost_46 : decode cX4_addLeastMost 46 = .ok (.ifCond .le 15, 3) := by decide +kernel
theorem dX4_addLeastMost_49 : decode cX4_addLeastMost 49 = .ok (.aload_n 0, 1) := by decide +kernel
theorem dX4_addLeastMost_50 : decode cX4_addLeastMost 50 = .ok (.getfield 34, 3) := by decide +kernel
theorem dX4_addLeastMost_53 : decode cX4_addLeastMost 53 = .ok (.iload_n 2, 1) := by decide +kernel
theorem dX4_addLeastMost_54 : decode cX4_addLeastMost 54 = .ok (.iload 6, 2) := by decide +kernel
theorem dX4_addLeastMost_56 : decode cX4_addLeastMost 56 = .ok (.ixor, 1) := by decide +kernel
theorem dX4_addLeastMost_57 : decode cX4_addLeastMost 57 = .ok (.laload, 1) := by decide +kernel
theorem dX4_addLeastMost_58 : decode cX4_addLeastMost 58 = .ok (.goto 10, 3) := by decide +kernel
theorem dX4_addLeastMost_61 : decode cX4_addLeastMost 61 = .ok (.aload_n 0, 1) := by decide +kernel
theorem dX4_addLeastMost_62 : decode cX4_addLeastMost 62 = .ok (.getfield 31, 3) := by decide +kernel
theorem dX4_addLeastMost_65 : decode cX4_addLeastMost 65 = .ok (.iload 6, 2) := by decide +kernel
theorem dX4_addLeastMost_67 : decode cX4_addLeastMost 67 = .ok (.laload, 1) := by decide +kernel
theorem dX4_addLeastMost_68 : decode cX4_addLeastMost 68 = .ok (.lstore 7, 2) := by decide +kernel
theorem dX4_addLeastMost_70 : decode cX4_addLeastMost 70 = .ok (.lload 7, 2) := by decide +kernel
theorem dX4_addLeastMost_72 : decode cX4_addLeastMost 72 = .ok (.lload 4, 2) := by decide +kernel
theorem dX4_addLeastMost_74 : decode cX4_addLeastMost 74 = .ok (.lcmp, 1) := by decide +kernel
theorem dX4_addLeastMost_75 : decode cX4_addLeastMost 75 = .ok (.ifCond .ge 7, 3) := by decide +kernel
theorem dX4_addLeastMost_78 : decode cX4_addLeastMost 78 = .ok (.lload 7, 2) := by decide +kernel
theorem dX4_addLeastMost_80 : decode cX4_addLeastMost 80 = .ok (.lstore 4, 2) := by decide +kernel
theorem dX4_addLeastMost_82 : decode cX4_addLeastMost 82 = .ok (.iload 6, 2) := by decide +kernel
theorem dX4_addLeastMost_84 : decode cX4_addLeastMost 84 = .ok (.iconst 1, 1) := by decide +kernel
theorem dX4_addLeastMost_85 : decode cX4_addLeastMost 85 = .ok (.isub, 1) := by decide +kernel
theorem dX4_addLeastMost_86 : decode cX4_addLeastMost 86 = .ok (.iload_n 3, 1) := by decide +kernel
theorem dX4_addLeastMost_87 : decode cX4_addLeastMost 87 = .ok (.iand, 1) := by decide +kernel
theorem dX4_addLeastMost_88 : decode cX4_addLeastMost 88 = .ok (.istore 6, 2) := by decide +kernel
theorem dX4_addLeastMost_90 : decode cX4_addLeastMost 90 = .ok (.goto (-66), 3) := by decide +kernel
theorem dX4_addLeastMost_93 : decode cX4_addLeastMost 93 = .ok (.aload_n 0, 1) := by decide +kernel
theorem dX4_addLeastMost_94 : decode cX4_addLeastMost 94 = .ok (.getfield 34, 3) := by decide +kernel
theorem dX4_addLeastMost_97 : decode cX4_addLeastMost 97 = .ok (.iload_n 2, 1) := by decide +kernel
theorem dX4_addLeastMost_98 : decode cX4_addLeastMost 98 = .ok (.lload 4, 2) := by decide +kernel
theorem dX4_addLeastMost_100 : decode cX4_addLeastMost 100 = .ok (.lastore, 1) := by decide +kernel
theorem dX4_addLeastMost_101 : decode cX4_addLeastMost 101 = .ok (.iinc 2 (-1), 3) := by decide +kernel
theorem dX4_addLeastMost_104 : decode cX4_addLeastMost 104 = .ok (.goto (-99), 3) := by decide +kernel
theorem dX4_addLeastMost_107 : decode cX4_addLeastMost 107 = .ok (.return_, 1) := by decide +kernel
theorem dX4_addStep_0 : decode cX4_addStep 0 = .ok (.iload_n 1, 1) := by decide +kernel
theorem dX4_addStep_1 : decode cX4_addStep 1 = .ok (.ifCond .ne 4, 3) := by decide +kernel
theorem dX4_addStep_4 : decode cX4_addStep 4 = .ok (.return_, 1) := by decide +kernel
theorem dX4_addStep_5 : decode cX4_addStep 5 = .ok (.iconst 0, 1) := by decide +kernel
theorem dX4_addStep_6 : decode cX4_addStep 6 = .ok (.istore_n 2, 1) := by decide +kernel
theorem dX4_addStep_7 : decode cX4_addStep 7 = .ok (.iload_n 2, 1) := by decide +kernel
theorem dX4_addStep_8 : decode cX4_addStep 8 = .ok (.aload_n 0, 1) := by decide +kernel
theorem dX4_addStep_9 : decode cX4_addStep 9 = .ok (.getfield 53, 3) := by decide +kernel
theorem dX4_addStep_12 : decode cX4_addStep 12 = .ok (.if_icmp .gt 41, 3) := by decide +kernel
theorem dX4_addStep_15 : decode cX4_addStep 15 = .ok (.iload_n 2, 1) := by decide +kernel
theorem dX4_addStep_16 : decode cX4_addStep 16 = .ok (.iload_n 2, 1) := by decide +kernel
theorem dX4_addStep_17 : decode cX4_addStep 17 = .ok (.iconst 1, 1) := by decide +kernel
theorem dX4_addStep_18 : decode cX4_addStep 18 = .ok (.ishr, 1) := by decide +kernel
theorem dX4_addStep_19 : decode cX4_addStep 19 = .ok (.ixor, 1) := by decide +kernel
theorem dX4_addStep_20 : decode cX4_addStep 20 = .ok (.aload_n 0, 1) := by decide +kernel
theorem dX4_addStep_21 : decode cX4_addStep 21 = .ok (.getfield 53, 3) := by decide +kernel
theorem dX4_addStep_24 : decode cX4_addStep 24 = .ok (.iconst 1, 1) := by decide +kernel
theorem dX4_addStep_25 : decode cX4_addStep 25 = .ok (.ishr, 1) := by decide +kernel
theorem dX4_addStep_26 : decode cX4_addStep 26 = .ok (.iand, 1) := by decide +kernel
theorem dX4_addStep_27 : decode cX4_addStep 27 = .ok (.invokestatic 99, 3) := by decide +kernel
theorem dX4_addStep_30 : decode cX4_addStep 30 = .ok (.istore_n 3, 1) := by decide +kernel
theorem dX4_addStep_31 : decode cX4_addStep 31 = .ok (.aload_n 0, 1) := by decide +kernel
theorem dX4_addStep_32 : decode cX4_addStep 32 = .ok (.getfield 34, 3) := by decide +kernel
theorem dX4_addStep_35 : decode cX4_addStep 35 = .ok (.iload_n 2, 1) := by decide +kernel
theorem dX4_addStep_36 : decode cX4_addStep 36 = .ok (.dup2, 1) := by decide +kernel
theorem dX4_addStep_37 : decode cX4_addStep 37 = .ok (.laload, 1) := by decide +kernel
theorem dX4_addStep_38 : decode cX4_addStep 38 = .ok (.iload_n 1, 1) := by decide +kernel
theorem dX4_addStep_39 : decode cX4_addStep 39 = .ok (.iload_n 3, 1) := by decide +kernel
theorem dX4_addStep_40 : decode cX4_addStep 40 = .ok (.imul, 1) := by decide +kernel
theorem dX4_addStep_41 : decode cX4_addStep 41 = .ok (.i2l, 1) := by decide +kernel
theorem dX4_addStep_42 : decode cX4_addStep 42 = .ok (.bipush 24, 2) := by decide +kernel
theorem dX4_addStep_44 : decode cX4_addStep 44 = .ok (.lshl, 1) := by decide +kernel
theorem dX4_addStep_45 : decode cX4_addStep 45 = .ok (.ladd, 1) := by decide +kernel
theorem dX4_addStep_46 : decode cX4_addStep 46 = .ok (.lastore, 1) := by decide +kernel
theorem dX4_addStep_47 : decode cX4_addStep 47 = .ok (.iinc 2 1, 3) := by decide +kernel
theorem dX4_addStep_50 : decode cX4_addStep 50 = .ok (.goto (-43), 3) := by decide +kernel
theorem dX4_addStep_53 : decode cX4_addStep 53 = .ok (.return_, 1) := by decide +kernel
theorem dX4_addWays_0 : decode cX4_addWays 0 = .ok (.aload_n 0, 1) := by decide +kernel
theorem dX4_addWays_1 : decode cX4_addWays 1 = .ok (.iload 4, 2) := by decide +kernel
theorem dX4_addWays_3 : decode cX4_addWays 3 = .ok (.invokevirtual 82, 3) := by decide +kernel
theorem dX4_addWays_6 : decode cX4_addWays 6 = .ok (.aload_n 0, 1) := by decide +kernel
theorem dX4_addWays_7 : decode cX4_addWays 7 = .ok (.getfield 53, 3) := by decide +kernel
theorem dX4_addWays_10 : decode cX4_addWays 10 = .ok (.istore 5, 2) := by decide +kernel
theorem dX4_addWays_12 : decode cX4_addWays 12 = .ok (.iload 5, 2) := by decide +kernel
theorem dX4_addWays_14 : decode cX4_addWays 14 = .ok (.ifCond .lt 86, 3) := by decide +kernel
theorem dX4_addWays_17 : decode cX4_addWays 17 = .ok (.iload 5, 2) := by decide +kernel
theorem dX4_addWays_19 : decode cX4_addWays 19 = .ok (.aload_n 0, 1) := by decide +kernel
theorem dX4_addWays_20 : decode cX4_addWays 20 = .ok (.getfield 9, 3) := by decide +kernel
theorem dX4_addWays_23 : decode cX4_addWays 23 = .ok (.iload 4, 2) := by decide +kernel
theorem dX4_addWays_25 : decode cX4_addWays 25 = .ok (.iaload, 1) := by decide +kernel
theorem dX4_addWays_26 : decode cX4_addWays 26 = .ok (.iand, 1) := by decide +kernel
theorem dX4_addWays_27 : decode cX4_addWays 27 = .ok (.istore 6, 2) := by decide +kernel
theorem dX4_addWays_29 : decode cX4_addWays 29 = .ok (.aload_n 1, 1) := by decide +kernel
theorem dX4_addWays_30 : decode cX4_addWays 30 = .ok (.iload_n 2, 1) := by decide +kernel
theorem dX4_addWays_31 : decode cX4_addWays 31 = .ok (.iload 5, 2) := by decide +kernel
theorem dX4_addWays_33 : decode cX4_addWays 33 = .ok (.iadd, 1) := by decide +kernel
theorem dX4_addWays_34 : decode cX4_addWays 34 = .ok (.iaload, 1) := by decide +kernel
theorem dX4_addWays_35 : decode cX4_addWays 35 = .ok (.istore 7, 2) := by decide +kernel
theorem dX4_addWays_37 : decode cX4_addWays 37 = .ok (.iload 6, 2) := by decide +kernel
theorem dX4_addWays_39 : decode cX4_addWays 39 = .ok (.istore 8, 2) := by decide +kernel
theorem dX4_addWays_41 : decode cX4_addWays 41 = .ok (.iload 8, 2) := by decide +kernel
theorem dX4_addWays_43 : decode cX4_addWays 43 = .ok (.ifCond .le 43, 3) := by decide +kernel
theorem dX4_addWays_46 : decode cX4_addWays 46 = .ok (.aload_n 0, 1) := by decide +kernel
theorem dX4_addWays_47 : decode cX4_addWays 47 = .ok (.getfield 31, 3) := by decide +kernel
theorem dX4_addWays_50 : decode cX4_addWays 50 = .ok (.iload 8, 2) := by decide +kernel
theorem dX4_addWays_52 : decode cX4_addWays 52 = .ok (.laload, 1) := by decide +kernel
theorem dX4_addWays_53 : decode cX4_addWays 53 = .ok (.ldc2_w 80, 3) := by decide +kernel
theorem dX4_addWays_56 : decode cX4_addWays 56 = .ok (.lcmp, 1) := by decide +kernel
theorem dX4_addWays_57 : decode cX4_addWays 57 = .ok (.ifCond .ge 17, 3) := by decide +kernel
theorem dX4_addWays_60 : decode cX4_addWays 60 = .ok (.iload 7, 2) := by decide +kernel
theorem dX4_addWays_62 : decode cX4_addWays 62 = .ok (.aload_n 1, 1) := by decide +kernel
theorem dX4_addWays_63 : decode cX4_addWays 63 = .ok (.iload_n 2, 1) := by decide +kernel
theorem dX4_addWays_64 : decode cX4_addWays 64 = .ok (.iload 5, 2) := by decide +kernel
theorem dX4_addWays_66 : decode cX4_addWays 66 = .ok (.iload 8, 2) := by decide +kernel
theorem dX4_addWays_68 : decode cX4_addWays 68 = .ok (.ixor, 1) := by decide +kernel
theorem dX4_addWays_69 : decode cX4_addWays 69 = .ok (.iadd, 1) := by decide +kernel
theorem dX4_addWays_70 : decode cX4_addWays 70 = .ok (.iaload, 1) := by decide +kernel
theorem dX4_addWays_71 : decode cX4_addWays 71 = .ok (.iadd, 1) := by decide +kernel
theorem dX4_addWays_72 : decode cX4_addWays 72 = .ok (.istore 7, 2) := by decide +kernel
theorem dX4_addWays_74 : decode cX4_addWays 74 = .ok (.iload 8, 2) := by decide +kernel
theorem dX4_addWays_76 : decode cX4_addWays 76 = .ok (.iconst 1, 1) := by decide +kernel
theorem dX4_addWays_77 : decode cX4_addWays 77 = .ok (.isub, 1) := by decide +kernel
theorem dX4_addWays_78 : decode cX4_addWays 78 = .ok (.iload 6, 2) := by decide +kernel
theorem dX4_addWays_80 : decode cX4_addWays 80 = .ok (.iand, 1) := by decide +kernel
theorem dX4_addWays_81 : decode cX4_addWays 81 = .ok (.istore 8, 2) := by decide +kernel
theorem dX4_addWays_83 : decode cX4_addWays 83 = .ok (.goto (-42), 3) := by decide +kernel
theorem dX4_addWays_86 : decode cX4_addWays 86 = .ok (.aload_n 1, 1) := by decide +kernel
theorem dX4_addWays_87 : decode cX4_addWays 87 = .ok (.iload_n 3, 1) := by decide +kernel
theorem dX4_addWays_88 : decode cX4_addWays 88 = .ok (.iload 5, 2) := by decide +kernel
theorem dX4_addWays_90 : decode cX4_addWays 90 = .ok (.iadd, 1) := by decide +kernel
theorem dX4_addWays_91 : decode cX4_addWays 91 = .ok (.iload 7, 2) := by decide +kernel
theorem dX4_addWays_93 : decode cX4_addWays 93 = .ok (.iastore, 1) := by decide +kernel
theorem dX4_addWays_94 : decode cX4_addWays 94 = .ok (.iinc 5 (-1), 3) := by decide +kernel
theorem dX4_addWays_97 : decode cX4_addWays 97 = .ok (.goto (-85), 3) := by decide +kernel
theorem dX4_addWays_100 : decode cX4_addWays 100 = .ok (.return_, 1) := by decide +kernel
theorem dX4_bar_0 : decode cX4_bar 0 = .ok (.aload_n 0, 1) := by decide +kernel
theorem dX4_bar_1 : decode cX4_bar 1 = .ok (.getfield 9, 3) := by decide +kernel
theorem dX4_bar_4 : decode cX4_bar 4 = .ok (.iload_n 2, 1) := by decide +kernel
theorem dX4_bar_5 : decode cX4_bar 5 = .ok (.dup2, 1) := by decide +kernel
theorem dX4_bar_6 : decode cX4_bar 6 = .ok (.iaload, 1) := by decide +kernel
theorem dX4_bar_7 : decode cX4_bar 7 = .ok (.iconst 1, 1) := by decide +kernel
theorem dX4_bar_8 : decode cX4_bar 8 = .ok (.iload_n 1, 1) := by decide +kernel
theorem dX4_bar_9 : decode cX4_bar 9 = .ok (.ishl, 1) := by decide +kernel
theorem dX4_bar_10 : decode cX4_bar 10 = .ok (.iconst (-1), 1) := by decide +kernel
theorem dX4_bar_11 : decode cX4_bar 11 = .ok (.ixor, 1) := by decide +kernel
theorem dX4_bar_12 : decode cX4_bar 12 = .ok (.iand, 1) := by decide +kernel
theorem dX4_bar_13 : decode cX4_bar 13 = .ok (.iastore, 1) := by decide +kernel
theorem dX4_bar_14 : decode cX4_bar 14 = .ok (.return_, 1) := by decide +kernel
theorem dX4_canHold_0 : decode cX4_canHold 0 = .ok (.aload_n 0, 1) := by decide +kernel
theorem dX4_canHold_1 : decode cX4_canHold 1 = .ok (.getfield 34, 3) := by decide +kernel
theorem dX4_canHold_4 : decode cX4_canHold 4 = .ok (.iload_n 1, 1) := by decide +kernel
theorem dX4_canHold_5 : decode cX4_canHold 5 = .ok (.aload_n 0, 1) := by decide +kernel
theorem dX4_canHold_6 : decode cX4_canHold 6 = .ok (.getfield 53, 3) := by decide +kernel
theorem dX4_canHold_9 : decode cX4_canHold 9 = .ok (.iand, 1) := by decide +kernel
theorem dX4_canHold_10 : decode cX4_canHold 10 = .ok (.laload, 1) := by decide +kernel
theorem dX4_canHold_11 : decode cX4_canHold 11 = .ok (.ldc2_w 80, 3) := by decide +kernel
theorem dX4_canHold_14 : decode cX4_canHold 14 = .ok (.lcmp, 1) := by decide +kernel
theorem dX4_canHold_15 : decode cX4_canHold 15 = .ok (.ifCond .ge 7, 3) := by decide +kernel
theorem dX4_canHold_18 : decode cX4_canHold 18 = .ok (.iconst 1, 1) := by decide +kernel
theorem dX4_canHold_19 : decode cX4_canHold 19 = .ok (.goto 4, 3) := by decide +kernel
theorem dX4_canHold_22 : decode cX4_canHold 22 = .ok (.iconst 0, 1) := by decide +kernel
theorem dX4_canHold_23 : decode cX4_canHold 23 = .ok (.ireturn, 1) := by decide +kernel
theorem dX4_charge_0 : decode cX4_charge 0 = .ok (.aload_n 0, 1) := by decide +kernel
theorem dX4_charge_1 : decode cX4_charge 1 = .ok (.getfield 24, 3) := by decide +kernel
theorem dX4_charge_4 : decode cX4_charge 4 = .ok (.iload_n 1, 1) := by decide +kernel
theorem dX4_charge_5 : decode cX4_charge 5 = .ok (.bipush 8, 2) := by decide +kernel
theorem dX4_charge_7 : decode cX4_charge 7 = .ok (.imul, 1) := by decide +kernel
theorem dX4_charge_8 : decode cX4_charge 8 = .ok (.iload_n 2, 1) := by decide +kernel
theorem dX4_charge_9 : decode cX4_charge 9 = .ok (.iadd, 1) := by decide +kernel
theorem dX4_charge_10 : decode cX4_charge 10 = .ok (.lload_n 3, 1) := by decide +kernel
theorem dX4_charge_11 : decode cX4_charge 11 = .ok (.lastore, 1) := by decide +kernel
theorem dX4_charge_12 : decode cX4_charge 12 = .ok (.return_, 1) := by decide +kernel
theorem dX4_findLacks_0 : decode cX4_findLacks 0 = .ok (.iconst 0, 1) := by decide +kernel
theorem dX4_findLacks_1 : decode cX4_findLacks 1 = .ok (.istore_n 1, 1) := by decide +kernel
theorem dX4_findLacks_2 : decode cX4_findLacks 2 = .ok (.iload_n 1, 1) := by decide +kernel
theorem dX4_findLacks_3 : decode cX4_findLacks 3 = .ok (.sipush 256, 3) := by decide +kernel
theorem dX4_findLacks_6 : decode cX4_findLacks 6 = .ok (.if_icmp .ge 24, 3) := by decide +kernel
theorem dX4_findLacks_9 : decode cX4_findLacks 9 = .ok (.aload_n 0, 1) := by decide +kernel
theorem dX4_findLacks_10 : decode cX4_findLacks 10 = .ok (.getfield 46, 3) := by decide +kernel
theorem dX4_findLacks_13 : decode cX4_findLacks 13 = .ok (.iload_n 1, 1) := by decide +kernel
theorem dX4_findLacks_14 : decode cX4_findLacks 14 = .ok (.iload_n 1, 1) := by decide +kernel
theorem dX4_findLacks_15 : decode cX4_findLacks 15 = .ok (.ifCond .ne 7, 3) := by decide +kernel
theorem dX4_findLacks_18 : decode cX4_findLacks 18 = .ok (.iconst 1, 1) := by decide +kernel
theorem dX4_findLacks_19 : decode cX4_findLacks 19 = .ok (.goto 4, 3) := by decide +kernel
theorem dX4_findLacks_22 : decode cX4_findLacks 22 = .ok (.iconst 0, 1) := by decide +kernel
theorem dX4_findLacks_23 : decode cX4_findLacks 23 = .ok (.bastore, 1) := by decide +kernel
theorem dX4_findLacks_24 : decode cX4_findLacks 24 = .ok (.iinc 1 1, 3) := by decide +kernel
theorem dX4_findLacks_27 : decode cX4_findLacks 27 = .ok (.goto (-25), 3) := by decide +kernel
theorem dX4_findLacks_30 : decode cX4_findLacks 30 = .ok (.iconst 1, 1) := by decide +kernel
theorem dX4_findLacks_31 : decode cX4_findLacks 31 = .ok (.istore_n 1, 1) := by decide +kernel
theorem dX4_findLacks_32 : decode cX4_findLacks 32 = .ok (.iload_n 1, 1) := by decide +kernel
theorem dX4_findLacks_33 : decode cX4_findLacks 33 = .ok (.aload_n 0, 1) := by decide +kernel
theorem dX4_findLacks_34 : decode cX4_findLacks 34 = .ok (.getfield 53, 3) := by decide +kernel
theorem dX4_findLacks_37 : decode cX4_findLacks 37 = .ok (.if_icmp .gt 14, 3) := by decide +kernel
theorem dX4_findLacks_40 : decode cX4_findLacks 40 = .ok (.aload_n 0, 1) := by decide +kernel
theorem dX4_findLacks_41 : decode cX4_findLacks 41 = .ok (.iload_n 1, 1) := by decide +kernel
theorem dX4_findLacks_42 : decode cX4_findLacks 42 = .ok (.invokevirtual 120, 3) := by decide +kernel
theorem dX4_findLacks_45 : decode cX4_findLacks 45 = .ok (.iinc 1 1, 3) := by decide +kernel
theorem dX4_findLacks_48 : decode cX4_findLacks 48 = .ok (.goto (-16), 3) := by decide +kernel
theorem dX4_findLacks_51 : decode cX4_findLacks 51 = .ok (.return_, 1) := by decide +kernel
theorem dX4_findLacksIn_0 : decode cX4_findLacksIn 0 = .ok (.iload_n 1, 1) := by decide +kernel
theorem dX4_findLacksIn_1 : decode cX4_findLacksIn 1 = .ok (.invokestatic 99, 3) := by decide +kernel
theorem dX4_findLacksIn_4 : decode cX4_findLacksIn 4 = .ok (.istore_n 2, 1) := by decide +kernel
theorem dX4_findLacksIn_5 : decode cX4_findLacksIn 5 = .ok (.aload_n 0, 1) := by decide +kernel
theorem dX4_findLacksIn_6 : decode cX4_findLacksIn 6 = .ok (.getfield 50, 3) := by decide +kernel
theorem dX4_findLacksIn_9 : decode cX4_findLacksIn 9 = .ok (.iconst 0, 1) := by decide +kernel
theorem dX4_findLacksIn_10 : decode cX4_findLacksIn 10 = .ok (.iconst 0, 1) := by decide +kernel
theorem dX4_findLacksIn_11 : decode cX4_findLacksIn 11 = .ok (.iastore, 1) := by decide +kernel
theorem dX4_findLacksIn_12 : decode cX4_findLacksIn 12 = .ok (.iconst 0, 1) := by decide +kernel
theorem dX4_findLacksIn_13 : decode cX4_findLacksIn 13 = .ok (.istore_n 3, 1) := by decide +kernel
theorem dX4_findLacksIn_14 : decode cX4_findLacksIn 14 = .ok (.iload_n 3, 1) := by decide +kernel
theorem dX4_findLacksIn_15 : decode cX4_findLacksIn 15 = .ok (.bipush 8, 2) := by decide +kernel
theorem dX4_findLacksIn_17 : decode cX4_findLacksIn 17 = .ok (.if_icmp .ge 93, 3) := by decide +kernel
theorem dX4_findLacksIn_20 : decode cX4_findLacksIn 20 = .ok (.iconst 1, 1) := by decide +kernel
theorem dX4_findLacksIn_21 : decode cX4_findLacksIn 21 = .ok (.iload_n 3, 1) := by decide +kernel
theorem dX4_findLacksIn_22 : decode cX4_findLacksIn 22 = .ok (.ishl, 1) := by decide +kernel
theorem dX4_findLacksIn_23 : decode cX4_findLacksIn 23 = .ok (.istore 4, 2) := by decide +kernel
theorem dX4_findLacksIn_25 : decode cX4_findLacksIn 25 = .ok (.aload_n 0, 1) := by decide +kernel
theorem dX4_findLacksIn_26 : decode cX4_findLacksIn 26 = .ok (.getfield 15, 3) := by decide +kernel
theorem dX4_findLacksIn_29 : decode cX4_findLacksIn 29 = .ok (.iload_n 3, 1) := by decide +kernel
theorem dX4_findLacksIn_30 : decode cX4_findLacksIn 30 = .ok (.iaload, 1) := by decide +kernel
theorem dX4_findLacksIn_31 : decode cX4_findLacksIn 31 = .ok (.aload_n 0, 1) := by decide +kernel
theorem dX4_findLacksIn_32 : decode cX4_findLacksIn 32 = .ok (.getfield 9, 3) := by decide +kernel
theorem dX4_findLacksIn_35 : decode cX4_findLacksIn 35 = .ok (.iload_n 3, 1) := by decide +kernel
theorem dX4_findLacksIn_36 : decode cX4_findLacksIn 36 = .ok (.iaload, 1) := by decide +kernel
theorem dX4_findLacksIn_37 : decode cX4_findLacksIn 37 = .ok (.iload_n 1, 1) := by decide +kernel
theorem dX4_findLacksIn_38 : decode cX4_findLacksIn 38 = .ok (.iand, 1) := by decide +kernel
theorem dX4_findLacksIn_39 : decode cX4_findLacksIn 39 = .ok (.invokestatic 99, 3) := by decide +kernel
theorem dX4_findLacksIn_42 : decode cX4_findLacksIn 42 = .ok (.invokestatic 123, 3) := by decide +kernel
theorem dX4_findLacksIn_45 : decode cX4_findLacksIn 45 = .ok (.istore 5, 2) := by decide +kernel
theorem dX4_findLacksIn_47 : decode cX4_findLacksIn 47 = .ok (.iconst 0, 1) := by decide +kernel
theorem dX4_findLacksIn_48 : decode cX4_findLacksIn 48 = .ok (.istore 6, 2) := by decide +kernel
theorem dX4_findLacksIn_50 : decode cX4_findLacksIn 50 = .ok (.iload 6, 2) := by decide +kernel
theorem dX4_findLacksIn_52 : decode cX4_findLacksIn 52 = .ok (.iload 4, 2) := by decide +kernel
theorem dX4_findLacksIn_54 : decode cX4_findLacksIn 54 = .ok (.if_icmp .ge 50, 3) := by decide +kernel
theorem dX4_findLacksIn_57 : decode cX4_findLacksIn 57 = .ok (.aload_n 0, 1) := by decide +kernel
theorem dX4_findLacksIn_58 : decode cX4_findLacksIn 58 = .ok (.getfield 50, 3) := by decide +kernel
theorem dX4_findLacksIn_61 : decode cX4_findLacksIn 61 = .ok (.iload 6, 2) := by decide +kernel
theorem dX4_findLacksIn_63 : decode cX4_findLacksIn 63 = .ok (.iaload, 1) := by decide +kernel
theorem dX4_findLacksIn_64 : decode cX4_findLacksIn 64 = .ok (.iload 5, 2) := by decide +kernel
theorem dX4_findLacksIn_66 : decode cX4_findLacksIn 66 = .ok (.iadd, 1) := by decide +kernel
theorem dX4_findLacksIn_67 : decode cX4_findLacksIn 67 = .ok (.istore 7, 2) := by decide +kernel
theorem dX4_findLacksIn_69 : decode cX4_findLacksIn 69 = .ok (.aload_n 0, 1) := by decide +kernel
theorem dX4_findLacksIn_70 : decode cX4_findLacksIn 70 = .ok (.getfield 50, 3) := by decide +kernel
theorem dX4_findLacksIn_73 : decode cX4_findLacksIn 73 = .ok (.iload 6, 2) := by decide +kernel
theorem dX4_findLacksIn_75 : decode cX4_findLacksIn 75 = .ok (.iload 4, 2) := by decide +kernel
theorem dX4_findLacksIn_77 : decode cX4_findLacksIn 77 = .ok (.iadd, 1) := by decide +kernel
theorem dX4_findLacksIn_78 : decode cX4_findLacksIn 78 = .ok (.iload 7, 2) := by decide +kernel
theorem dX4_findLacksIn_80 : decode cX4_findLacksIn 80 = .ok (.iastore, 1) := by decide +kernel
theorem dX4_findLacksIn_81 : decode cX4_findLacksIn 81 = .ok (.iload 7, 2) := by decide +kernel
theorem dX4_findLacksIn_83 : decode cX4_findLacksIn 83 = .ok (.iload_n 2, 1) := by decide +kernel
theorem dX4_findLacksIn_84 : decode cX4_findLacksIn 84 = .ok (.if_icmp .ge 14, 3) := by decide +kernel
theorem dX4_findLacksIn_87 : decode cX4_findLacksIn 87 = .ok (.aload_n 0, 1) := by decide +kernel
theorem dX4_findLacksIn_88 : decode cX4_findLacksIn 88 = .ok (.getfield 46, 3) := by decide +kernel
theorem dX4_findLacksIn_91 : decode cX4_findLacksIn 91 = .ok (.iload 6, 2) := by decide +kernel
theorem dX4_findLacksIn_93 : decode cX4_findLacksIn 93 = .ok (.iload 4, 2) := by decide +kernel
theorem dX4_findLacksIn_95 : decode cX4_findLacksIn 95 = .ok (.iadd, 1) := by decide +kernel
theorem dX4_findLacksIn_96 : decode cX4_findLacksIn 96 = .ok (.iconst 1, 1) := by decide +kernel
theorem dX4_findLacksIn_97 : decode cX4_findLacksIn 97 = .ok (.bastore, 1) := by decide +kernel
theorem dX4_findLacksIn_98 : decode cX4_findLacksIn 98 = .ok (.iinc 6 1, 3) := by decide +kernel
theorem dX4_findLacksIn_101 : decode cX4_findLacksIn 101 = .ok (.goto (-51), 3) := by decide +kernel
theorem dX4_findLacksIn_104 : decode cX4_findLacksIn 104 = .ok (.iinc 3 1, 3) := by decide +kernel
theorem dX4_findLacksIn_107 : decode cX4_findLacksIn 107 = .ok (.goto (-93), 3) := by decide +kernel
theorem dX4_findLacksIn_110 : decode cX4_findLacksIn 110 = .ok (.return_, 1) := by decide +kernel
theorem dX4_holdTo_0 : decode cX4_holdTo 0 = .ok (.iconst 0, 1) := by decide +kernel
theorem dX4_holdTo_1 : decode cX4_holdTo 1 = .ok (.istore_n 3, 1) := by decide +kernel
theorem dX4_holdTo_2 : decode cX4_holdTo 2 = .ok (.iload_n 3, 1) := by decide +kernel
theorem dX4_holdTo_3 : decode cX4_holdTo 3 = .ok (.bipush 8, 2) := by decide +kernel
theorem dX4_holdTo_5 : decode cX4_holdTo 5 = .ok (.if_icmp .ge 20, 3) := by decide +kernel
theorem dX4_holdTo_8 : decode cX4_holdTo 8 = .ok (.iload_n 3, 1) := by decide +kernel
theorem dX4_holdTo_9 : decode cX4_holdTo 9 = .ok (.iload_n 2, 1) := by decide +kernel
theorem dX4_holdTo_10 : decode cX4_holdTo 10 = .ok (.if_icmp .eq 9, 3) := by decide +kernel
theorem dX4_holdTo_13 : decode cX4_holdTo 13 = .ok (.aload_n 0, 1) := by decide +kernel
theorem dX4_holdTo_14 : decode cX4_holdTo 14 = .ok (.iload_n 1, 1) := by decide +kernel
theorem dX4_holdTo_15 : decode cX4_holdTo 15 = .ok (.iload_n 3, 1) := by decide +kernel
theorem dX4_holdTo_16 : decode cX4_holdTo 16 = .ok (.invokevirtual 76, 3) := by decide +kernel
theorem dX4_holdTo_19 : decode cX4_holdTo 19 = .ok (.iinc 3 1, 3) := by decide +kernel
theorem dX4_holdTo_22 : decode cX4_holdTo 22 = .ok (.goto (-20), 3) := by decide +kernel
theorem dX4_holdTo_25 : decode cX4_holdTo 25 = .ok (.return_, 1) := by decide +kernel
theorem dX4_init_0 : decode cX4_init 0 = .ok (.aload_n 0, 1) := by decide +kernel
theorem dX4_init_1 : decode cX4_init 1 = .ok (.invokespecial 3, 3) := by decide +kernel
theorem dX4_init_4 : decode cX4_init 4 = .ok (.aload_n 0, 1) := by decide +kernel
theorem dX4_init_5 : decode cX4_init 5 = .ok (.bipush 8, 2) := by decide +kernel
theorem dX4_init_7 : decode cX4_init 7 = .ok (.newarray .int, 2) := by decide +kernel
theorem dX4_init_9 : decode cX4_init 9 = .ok (.putfield 9, 3) := by decide +kernel
theorem dX4_init_12 : decode cX4_init 12 = .ok (.aload_n 0, 1) := by decide +kernel
theorem dX4_init_13 : decode cX4_init 13 = .ok (.bipush 8, 2) := by decide +kernel
theorem dX4_init_15 : decode cX4_init 15 = .ok (.newarray .int, 2) := by decide +kernel
theorem dX4_init_17 : decode cX4_init 17 = .ok (.putfield 15, 3) := by decide +kernel
theorem dX4_init_20 : decode cX4_init 20 = .ok (.aload_n 0, 1) := by decide +kernel
theorem dX4_init_21 : decode cX4_init 21 = .ok (.bipush 8, 2) := by decide +kernel
theorem dX4_init_23 : decode cX4_init 23 = .ok (.newarray .int, 2) := by decide +kernel
theorem dX4_init_25 : decode cX4_init 25 = .ok (.putfield 18, 3) := by decide +kernel
theorem dX4_init_28 : decode cX4_init 28 = .ok (.aload_n 0, 1) := by decide +kernel
theorem dX4_init_29 : decode cX4_init 29 = .ok (.bipush 8, 2) := by decide +kernel
theorem dX4_init_31 : decode cX4_init 31 = .ok (.newarray .int, 2) := by decide +kernel
theorem dX4_init_33 : decode cX4_init 33 = .ok (.putfield 21, 3) := by decide +kernel
theorem dX4_init_36 : decode cX4_init 36 = .ok (.aload_n 0, 1) := by decide +kernel
theorem dX4_init_37 : decode cX4_init 37 = .ok (.bipush 64, 2) := by decide +kernel
theorem dX4_init_39 : decode cX4_init 39 = .ok (.newarray .long, 2) := by decide +kernel
theorem dX4_init_41 : decode cX4_init 41 = .ok (.putfield 24, 3) := by decide +kernel
theorem dX4_init_44 : decode cX4_init 44 = .ok (.aload_n 0, 1) := by decide +kernel
theorem dX4_init_45 : decode cX4_init 45 = .ok (.bipush 8, 2) := by decide +kernel
theorem dX4_init_47 : decode cX4_init 47 = .ok (.newarray .long, 2) := by decide +kernel
theorem dX4_init_49 : decode cX4_init 49 = .ok (.putfield 28, 3) := by decide +kernel
theorem dX4_init_52 : decode cX4_init 52 = .ok (.aload_n 0, 1) := by decide +kernel
theorem dX4_init_53 : decode cX4_init 53 = .ok (.sipush 256, 3) := by decide +kernel
theorem dX4_init_56 : decode cX4_init 56 = .ok (.newarray .long, 2) := by decide +kernel
theorem dX4_init_58 : decode cX4_init 58 = .ok (.putfield 31, 3) := by decide +kernel
theorem dX4_init_61 : decode cX4_init 61 = .ok (.aload_n 0, 1) := by decide +kernel
theorem dX4_init_62 : decode cX4_init 62 = .ok (.sipush 256, 3) := by decide +kernel
theorem dX4_init_65 : decode cX4_init 65 = .ok (.newarray .long, 2) := by decide +kernel
theorem dX4_init_67 : decode cX4_init 67 = .ok (.putfield 34, 3) := by decide +kernel
theorem dX4_init_70 : decode cX4_init 70 = .ok (.aload_n 0, 1) := by decide +kernel
theorem dX4_init_71 : decode cX4_init 71 = .ok (.sipush 2304, 3) := by decide +kernel
theorem dX4_init_74 : decode cX4_init 74 = .ok (.newarray .int, 2) := by decide +kernel
theorem dX4_init_76 : decode cX4_init 76 = .ok (.putfield 37, 3) := by decide +kernel
theorem dX4_init_79 : decode cX4_init 79 = .ok (.aload_n 0, 1) := by decide +kernel
theorem dX4_init_80 : decode cX4_init 80 = .ok (.sipush 256, 3) := by decide +kernel
theorem dX4_init_83 : decode cX4_init 83 = .ok (.newarray .int, 2) := by decide +kernel
theorem dX4_init_85 : decode cX4_init 85 = .ok (.putfield 40, 3) := by decide +kernel
theorem dX4_init_88 : decode cX4_init 88 = .ok (.aload_n 0, 1) := by decide +kernel
theorem dX4_init_89 : decode cX4_init 89 = .ok (.bipush 64, 2) := by decide +kernel
theorem dX4_init_91 : decode cX4_init 91 = .ok (.newarray .int, 2) := by decide +kernel
theorem dX4_init_93 : decode cX4_init 93 = .ok (.putfield 43, 3) := by decide +kernel
theorem dX4_init_96 : decode cX4_init 96 = .ok (.aload_n 0, 1) := by decide +kernel
theorem dX4_init_97 : decode cX4_init 97 = .ok (.sipush 256, 3) := by decide +kernel
theorem dX4_init_100 : decode cX4_init 100 = .ok (.newarray .boolean, 2) := by decide +kernel
theorem dX4_init_102 : decode cX4_init 102 = .ok (.putfield 46, 3) := by decide +kernel
theorem dX4_init_105 : decode cX4_init 105 = .ok (.aload_n 0, 1) := by decide +kernel
theorem dX4_init_106 : decode cX4_init 106 = .ok (.sipush 256, 3) := by decide +kernel
theorem dX4_init_109 : decode cX4_init 109 = .ok (.newarray .int, 2) := by decide +kernel
theorem dX4_init_111 : decode cX4_init 111 = .ok (.putfield 50, 3) := by decide +kernel
theorem dX4_init_114 : decode cX4_init 114 = .ok (.return_, 1) := by decide +kernel
theorem dX4_lacks_0 : decode cX4_lacks 0 = .ok (.aload_n 0, 1) := by decide +kernel
theorem dX4_lacks_1 : decode cX4_lacks 1 = .ok (.getfield 46, 3) := by decide +kernel
theorem dX4_lacks_4 : decode cX4_lacks 4 = .ok (.iload_n 1, 1) := by decide +kernel
theorem dX4_lacks_5 : decode cX4_lacks 5 = .ok (.sipush 255, 3) := by decide +kernel
theorem dX4_lacks_8 : decode cX4_lacks 8 = .ok (.iand, 1) := by decide +kernel
theorem dX4_lacks_9 : decode cX4_lacks 9 = .ok (.baload, 1) := by decide +kernel
theorem dX4_lacks_10 : decode cX4_lacks 10 = .ok (.ireturn, 1) := by decide +kernel
theorem dX4_least_0 : decode cX4_least 0 = .ok (.aload_n 0, 1) := by decide +kernel
theorem dX4_least_1 : decode cX4_least 1 = .ok (.getfield 34, 3) := by decide +kernel
theorem dX4_least_4 : decode cX4_least 4 = .ok (.ldc2_w 80, 3) := by decide +kernel
theorem dX4_least_7 : decode cX4_least 7 = .ok (.invokestatic 69, 3) := by decide +kernel
theorem dX4_least_10 : decode cX4_least 10 = .ok (.aload_n 0, 1) := by decide +kernel
theorem dX4_least_11 : decode cX4_least 11 = .ok (.getfield 34, 3) := by decide +kernel
theorem dX4_least_14 : decode cX4_least 14 = .ok (.iconst 0, 1) := by decide +kernel
theorem dX4_least_15 : decode cX4_least 15 = .ok (.lconst 0, 1) := by decide +kernel
theorem dX4_least_16 : decode cX4_least 16 = .ok (.lastore, 1) := by decide +kernel
theorem dX4_least_17 : decode cX4_least 17 = .ok (.iconst 0, 1) := by decide +kernel
theorem dX4_least_18 : decode cX4_least 18 = .ok (.istore_n 1, 1) := by decide +kernel
theorem dX4_least_19 : decode cX4_least 19 = .ok (.iload_n 1, 1) := by decide +kernel
theorem dX4_least_20 : decode cX4_least 20 = .ok (.bipush 8, 2) := by decide +kernel
theorem dX4_least_22 : decode cX4_least 22 = .ok (.if_icmp .ge 44, 3) := by decide +kernel
theorem dX4_least_25 : decode cX4_least 25 = .ok (.aload_n 0, 1) := by decide +kernel
theorem dX4_least_26 : decode cX4_least 26 = .ok (.aload_n 0, 1) := by decide +kernel
theorem dX4_least_27 : decode cX4_least 27 = .ok (.getfield 18, 3) := by decide +kernel
theorem dX4_least_30 : decode cX4_least 30 = .ok (.iload_n 1, 1) := by decide +kernel
theorem dX4_least_31 : decode cX4_least 31 = .ok (.iaload, 1) := by decide +kernel
theorem dX4_least_32 : decode cX4_least 32 = .ok (.invokevirtual 82, 3) := by decide +kernel
theorem dX4_least_35 : decode cX4_least 35 = .ok (.aload_n 0, 1) := by decide +kernel
theorem dX4_least_36 : decode cX4_least 36 = .ok (.aload_n 0, 1) := by decide +kernel
theorem dX4_least_37 : decode cX4_least 37 = .ok (.getfield 9, 3) := by decide +kernel
theorem dX4_least_40 : decode cX4_least 40 = .ok (.aload_n 0, 1) := by decide +kernel
theorem dX4_least_41 : decode cX4_least 41 = .ok (.getfield 18, 3) := by decide +kernel
theorem dX4_least_44 : decode cX4_least 44 = .ok (.iload_n 1, 1) := by decide +kernel
theorem dX4_least_45 : decode cX4_least 45 = .ok (.iaload, 1) := by decide +kernel
theorem dX4_least_46 : decode cX4_least 46 = .ok (.iaload, 1) := by decide +kernel
theorem dX4_least_47 : decode cX4_least 47 = .ok (.invokevirtual 86, 3) := by decide +kernel
theorem dX4_least_50 : decode cX4_least 50 = .ok (.aload_n 0, 1) := by decide +kernel
theorem dX4_least_51 : decode cX4_least 51 = .ok (.aload_n 0, 1) := by decide +kernel
theorem dX4_least_52 : decode cX4_least 52 = .ok (.getfield 21, 3) := by decide +kernel
theorem dX4_least_55 : decode cX4_least 55 = .ok (.iload_n 1, 1) := by decide +kernel
theorem dX4_least_56 : decode cX4_least 56 = .ok (.iaload, 1) := by decide +kernel
theorem dX4_least_57 : decode cX4_least 57 = .ok (.invokevirtual 89, 3) := by decide +kernel
theorem dX4_least_60 : decode cX4_least 60 = .ok (.iinc 1 1, 3) := by decide +kernel
theorem dX4_least_63 : decode cX4_least 63 = .ok (.goto (-44), 3) := by decide +kernel
theorem dX4_least_66 : decode cX4_least 66 = .ok (.aload_n 0, 1) := by decide +kernel
theorem dX4_least_67 : decode cX4_least 67 = .ok (.getfield 34, 3) := by decide +kernel
theorem dX4_least_70 : decode cX4_least 70 = .ok (.aload_n 0, 1) := by decide +kernel
theorem dX4_least_71 : decode cX4_least 71 = .ok (.getfield 53, 3) := by decide +kernel
theorem dX4_least_74 : decode cX4_least 74 = .ok (.laload, 1) := by decide +kernel
theorem dX4_least_75 : decode cX4_least 75 = .ok (.lreturn, 1) := by decide +kernel
theorem dX4_leastMost_0 : decode cX4_leastMost 0 = .ok (.aload_n 0, 1) := by decide +kernel
theorem dX4_leastMost_1 : decode cX4_leastMost 1 = .ok (.getfield 34, 3) := by decide +kernel
theorem dX4_leastMost_4 : decode cX4_leastMost 4 = .ok (.ldc2_w 80, 3) := by decide +kernel
theorem dX4_leastMost_7 : decode cX4_leastMost 7 = .ok (.invokestatic 69, 3) := by decide +kernel
theorem dX4_leastMost_10 : decode cX4_leastMost 10 = .ok (.aload_n 0, 1) := by decide +kernel
theorem dX4_leastMost_11 : decode cX4_leastMost 11 = .ok (.getfield 34, 3) := by decide +kernel
theorem dX4_leastMost_14 : decode cX4_leastMost 14 = .ok (.iconst 0, 1) := by decide +kernel
theorem dX4_leastMost_15 : decode cX4_leastMost 15 = .ok (.lconst 0, 1) := by decide +kernel
theorem dX4_leastMost_16 : decode cX4_leastMost 16 = .ok (.lastore, 1) := by decide +kernel
theorem dX4_leastMost_17 : decode cX4_leastMost 17 = .ok (.iconst 0, 1) := by decide +kernel
theorem dX4_leastMost_18 : decode cX4_leastMost 18 = .ok (.istore_n 1, 1) := by decide +kernel
theorem dX4_leastMost_19 : decode cX4_leastMost 19 = .ok (.iload_n 1, 1) := by decide +kernel
theorem dX4_leastMost_20 : decode cX4_leastMost 20 = .ok (.bipush 8, 2) := by decide +kernel
theorem dX4_leastMost_22 : decode cX4_leastMost 22 = .ok (.if_icmp .ge 24, 3) := by decide +kernel
theorem dX4_leastMost_25 : decode cX4_leastMost 25 = .ok (.aload_n 0, 1) := by decide +kernel
theorem dX4_leastMost_26 : decode cX4_leastMost 26 = .ok (.iload_n 1, 1) := by decide +kernel
theorem dX4_leastMost_27 : decode cX4_leastMost 27 = .ok (.invokevirtual 82, 3) := by decide +kernel
theorem dX4_leastMost_30 : decode cX4_leastMost 30 = .ok (.aload_n 0, 1) := by decide +kernel
theorem dX4_leastMost_31 : decode cX4_leastMost 31 = .ok (.aload_n 0, 1) := by decide +kernel
theorem dX4_leastMost_32 : decode cX4_leastMost 32 = .ok (.getfield 9, 3) := by decide +kernel
theorem dX4_leastMost_35 : decode cX4_leastMost 35 = .ok (.iload_n 1, 1) := by decide +kernel
theorem dX4_leastMost_36 : decode cX4_leastMost 36 = .ok (.iaload, 1) := by decide +kernel
theorem dX4_leastMost_37 : decode cX4_leastMost 37 = .ok (.invokevirtual 92, 3) := by decide +kernel
theorem dX4_leastMost_40 : decode cX4_leastMost 40 = .ok (.iinc 1 1, 3) := by decide +kernel
theorem dX4_leastMost_43 : decode cX4_leastMost 43 = .ok (.goto (-24), 3) := by decide +kernel
theorem dX4_leastMost_46 : decode cX4_leastMost 46 = .ok (.aload_n 0, 1) := by decide +kernel
theorem dX4_leastMost_47 : decode cX4_leastMost 47 = .ok (.getfield 34, 3) := by decide +kernel
theorem dX4_leastMost_50 : decode cX4_leastMost 50 = .ok (.aload_n 0, 1) := by decide +kernel
theorem dX4_leastMost_51 : decode cX4_leastMost 51 = .ok (.getfield 53, 3) := by decide +kernel
theorem dX4_leastMost_54 : decode cX4_leastMost 54 = .ok (.laload, 1) := by decide +kernel
theorem dX4_leastMost_55 : decode cX4_leastMost 55 = .ok (.lreturn, 1) := by decide +kernel
theorem dX4_mostIn_0 : decode cX4_mostIn 0 = .ok (.iconst 0, 1) := by decide +kernel
theorem dX4_mostIn_1 : decode cX4_mostIn 1 = .ok (.istore_n 2, 1) := by decide +kernel
theorem dX4_mostIn_2 : decode cX4_mostIn 2 = .ok (.iconst 0, 1) := by decide +kernel
theorem dX4_mostIn_3 : decode cX4_mostIn 3 = .ok (.istore_n 3, 1) := by decide +kernel
theorem dX4_mostIn_4 : decode cX4_mostIn 4 = .ok (.iload_n 3, 1) := by decide +kernel
theorem dX4_mostIn_5 : decode cX4_mostIn 5 = .ok (.bipush 8, 2) := by decide +kernel
theorem dX4_mostIn_7 : decode cX4_mostIn 7 = .ok (.if_icmp .ge 25, 3) := by decide +kernel
theorem dX4_mostIn_10 : decode cX4_mostIn 10 = .ok (.iload_n 2, 1) := by decide +kernel
theorem dX4_mostIn_11 : decode cX4_mostIn 11 = .ok (.aload_n 0, 1) := by decide +kernel
theorem dX4_mostIn_12 : decode cX4_mostIn 12 = .ok (.getfield 43, 3) := by decide +kernel
theorem dX4_mostIn_15 : decode cX4_mostIn 15 = .ok (.iload_n 1, 1) := by decide +kernel
theorem dX4_mostIn_16 : decode cX4_mostIn 16 = .ok (.bipush 8, 2) := by decide +kernel
theorem dX4_mostIn_18 : decode cX4_mostIn 18 = .ok (.imul, 1) := by decide +kernel
theorem dX4_mostIn_19 : decode cX4_mostIn 19 = .ok (.iload_n 3, 1) := by decide +kernel
theorem dX4_mostIn_20 : decode cX4_mostIn 20 = .ok (.iadd, 1) := by decide +kernel
theorem dX4_mostIn_21 : decode cX4_mostIn 21 = .ok (.iaload, 1) := by decide +kernel
theorem dX4_mostIn_22 : decode cX4_mostIn 22 = .ok (.invokestatic 115, 3) := by decide +kernel
theorem dX4_mostIn_25 : decode cX4_mostIn 25 = .ok (.istore_n 2, 1) := by decide +kernel
theorem dX4_mostIn_26 : decode cX4_mostIn 26 = .ok (.iinc 3 1, 3) := by decide +kernel
theorem dX4_mostIn_29 : decode cX4_mostIn 29 = .ok (.goto (-25), 3) := by decide +kernel
theorem dX4_mostIn_32 : decode cX4_mostIn 32 = .ok (.iload_n 2, 1) := by decide +kernel
theorem dX4_mostIn_33 : decode cX4_mostIn 33 = .ok (.ireturn, 1) := by decide +kernel
theorem dX4_open_0 : decode cX4_open 0 = .ok (.aload_n 0, 1) := by decide +kernel
theorem dX4_open_1 : decode cX4_open 1 = .ok (.iconst 1, 1) := by decide +kernel
theorem dX4_open_2 : decode cX4_open 2 = .ok (.iload_n 1, 1) := by decide +kernel
theorem dX4_open_3 : decode cX4_open 3 = .ok (.ishl, 1) := by decide +kernel
theorem dX4_open_4 : decode cX4_open 4 = .ok (.iconst 1, 1) := by decide +kernel
theorem dX4_open_5 : decode cX4_open 5 = .ok (.isub, 1) := by decide +kernel
theorem dX4_open_6 : decode cX4_open 6 = .ok (.putfield 53, 3) := by decide +kernel
theorem dX4_open_9 : decode cX4_open 9 = .ok (.aload_n 0, 1) := by decide +kernel
theorem dX4_open_10 : decode cX4_open 10 = .ok (.ldc2_w 57, 3) := by decide +kernel
theorem dX4_open_13 : decode cX4_open 13 = .ok (.putfield 59, 3) := by decide +kernel
theorem dX4_open_16 : decode cX4_open 16 = .ok (.aload_n 0, 1) := by decide +kernel
theorem dX4_open_17 : decode cX4_open 17 = .ok (.getfield 9, 3) := by decide +kernel
theorem dX4_open_20 : decode cX4_open 20 = .ok (.iconst 0, 1) := by decide +kernel
theorem dX4_open_21 : decode cX4_open 21 = .ok (.invokestatic 63, 3) := by decide +kernel
theorem dX4_open_24 : decode cX4_open 24 = .ok (.aload_n 0, 1) := by decide +kernel
theorem dX4_open_25 : decode cX4_open 25 = .ok (.getfield 15, 3) := by decide +kernel
theorem dX4_open_28 : decode cX4_open 28 = .ok (.iconst 0, 1) := by decide +kernel
theorem dX4_open_29 : decode cX4_open 29 = .ok (.invokestatic 63, 3) := by decide +kernel
theorem dX4_open_32 : decode cX4_open 32 = .ok (.aload_n 0, 1) := by decide +kernel
theorem dX4_open_33 : decode cX4_open 33 = .ok (.getfield 21, 3) := by decide +kernel
theorem dX4_open_36 : decode cX4_open 36 = .ok (.iconst 0, 1) := by decide +kernel
theorem dX4_open_37 : decode cX4_open 37 = .ok (.invokestatic 63, 3) := by decide +kernel
theorem dX4_open_40 : decode cX4_open 40 = .ok (.aload_n 0, 1) := by decide +kernel
theorem dX4_open_41 : decode cX4_open 41 = .ok (.getfield 28, 3) := by decide +kernel
theorem dX4_open_44 : decode cX4_open 44 = .ok (.lconst 0, 1) := by decide +kernel
theorem dX4_open_45 : decode cX4_open 45 = .ok (.invokestatic 69, 3) := by decide +kernel
theorem dX4_open_48 : decode cX4_open 48 = .ok (.aload_n 0, 1) := by decide +kernel
theorem dX4_open_49 : decode cX4_open 49 = .ok (.getfield 24, 3) := by decide +kernel
theorem dX4_open_52 : decode cX4_open 52 = .ok (.lconst 0, 1) := by decide +kernel
theorem dX4_open_53 : decode cX4_open 53 = .ok (.invokestatic 69, 3) := by decide +kernel
theorem dX4_open_56 : decode cX4_open 56 = .ok (.iconst 0, 1) := by decide +kernel
theorem dX4_open_57 : decode cX4_open 57 = .ok (.istore_n 2, 1) := by decide +kernel
theorem dX4_open_58 : decode cX4_open 58 = .ok (.iload_n 2, 1) := by decide +kernel
theorem dX4_open_59 : decode cX4_open 59 = .ok (.bipush 8, 2) := by decide +kernel
theorem dX4_open_61 : decode cX4_open 61 = .ok (.if_icmp .ge 16, 3) := by decide +kernel
theorem dX4_open_64 : decode cX4_open 64 = .ok (.aload_n 0, 1) := by decide +kernel
theorem dX4_open_65 : decode cX4_open 65 = .ok (.getfield 18, 3) := by decide +kernel
theorem dX4_open_68 : decode cX4_open 68 = .ok (.iload_n 2, 1) := by decide +kernel
theorem dX4_open_69 : decode cX4_open 69 = .ok (.iload_n 2, 1) := by decide +kernel
theorem dX4_open_70 : decode cX4_open 70 = .ok (.iastore, 1) := by decide +kernel
theorem dX4_open_71 : decode cX4_open 71 = .ok (.iinc 2 1, 3) := by decide +kernel
theorem dX4_open_74 : decode cX4_open 74 = .ok (.goto (-16), 3) := by decide +kernel
theorem dX4_open_77 : decode cX4_open 77 = .ok (.return_, 1) := by decide +kernel
theorem dX4_orderByWidth_0 : decode cX4_orderByWidth 0 = .ok (.iconst 1, 1) := by decide +kernel
theorem dX4_orderByWidth_1 : decode cX4_orderByWidth 1 = .ok (.istore_n 3, 1) := by decide +kernel
theorem dX4_orderByWidth_2 : decode cX4_orderByWidth 2 = .ok (.iload_n 3, 1) := by decide +kernel
theorem dX4_orderByWidth_3 : decode cX4_orderByWidth 3 = .ok (.iload_n 2, 1) := by decide +kernel
theorem dX4_orderByWidth_4 : decode cX4_orderByWidth 4 = .ok (.if_icmp .ge 82, 3) := by decide +kernel
theorem dX4_orderByWidth_7 : decode cX4_orderByWidth 7 = .ok (.iload_n 3, 1) := by decide +kernel
theorem dX4_orderByWidth_8 : decode cX4_orderByWidth 8 = .ok (.istore 4, 2) := by decide +kernel
theorem dX4_orderByWidth_10 : decode cX4_orderByWidth 10 = .ok (.iload 4, 2) := by decide +kernel
theorem dX4_orderByWidth_12 : decode cX4_orderByWidth 12 = .ok (.ifCond .le 68, 3) := by decide +kernel
theorem dX4_orderByWidth_15 : decode cX4_orderByWidth 15 = .ok (.aload_n 1, 1) := by decide +kernel
theorem dX4_orderByWidth_16 : decode cX4_orderByWidth 16 = .ok (.aload_n 0, 1) := by decide +kernel
theorem dX4_orderByWidth_17 : decode cX4_orderByWidth 17 = .ok (.getfield 18, 3) := by decide +kernel
theorem dX4_orderByWidth_20 : decode cX4_orderByWidth 20 = .ok (.iload 4, 2) := by decide +kernel
theorem dX4_orderByWidth_22 : decode cX4_orderByWidth 22 = .ok (.iaload, 1) := by decide +kernel
theorem dX4_orderByWidth_23 : decode cX4_orderByWidth 23 = .ok (.iaload, 1) := by decide +kernel
theorem dX4_orderByWidth_24 : decode cX4_orderByWidth 24 = .ok (.aload_n 1, 1) := by decide +kernel
theorem dX4_orderByWidth_25 : decode cX4_orderByWidth 25 = .ok (.aload_n 0, 1) := by decide +kernel
theorem dX4_orderByWidth_26 : decode cX4_orderByWidth 26 = .ok (.getfield 18, 3) := by decide +kernel
theorem dX4_orderByWidth_29 : decode cX4_orderByWidth 29 = .ok (.iload 4, 2) := by decide +kernel
theorem dX4_orderByWidth_31 : decode cX4_orderByWidth 31 = .ok (.iconst 1, 1) := by decide +kernel
theorem dX4_orderByWidth_32 : decode cX4_orderByWidth 32 = .ok (.isub, 1) := by decide +kernel
theorem dX4_orderByWidth_33 : decode cX4_orderByWidth 33 = .ok (.iaload, 1) := by decide +kernel
theorem dX4_orderByWidth_34 : decode cX4_orderByWidth 34 = .ok (.iaload, 1) := by decide +kernel
theorem dX4_orderByWidth_35 : decode cX4_orderByWidth 35 = .ok (.if_icmp .ge 45, 3) := by decide +kernel
theorem dX4_orderByWidth_38 : decode cX4_orderByWidth 38 = .ok (.aload_n 0, 1) := by decide +kernel
theorem dX4_orderByWidth_39 : decode cX4_orderByWidth 39 = .ok (.getfield 18, 3) := by decide +kernel
theorem dX4_orderByWidth_42 : decode cX4_orderByWidth 42 = .ok (.iload 4, 2) := by decide +kernel
theorem dX4_orderByWidth_44 : decode cX4_orderByWidth 44 = .ok (.iaload, 1) := by decide +kernel
theorem dX4_orderByWidth_45 : decode cX4_orderByWidth 45 = .ok (.istore 5, 2) := by decide +kernel
theorem dX4_orderByWidth_47 : decode cX4_orderByWidth 47 = .ok (.aload_n 0, 1) := by decide +kernel
theorem dX4_orderByWidth_48 : decode cX4_orderByWidth 48 = .ok (.getfield 18, 3) := by decide +kernel
theorem dX4_orderByWidth_51 : decode cX4_orderByWidth 51 = .ok (.iload 4, 2) := by decide +kernel
theorem dX4_orderByWidth_53 : decode cX4_orderByWidth 53 = .ok (.aload_n 0, 1) := by decide +kernel
theorem dX4_orderByWidth_54 : decode cX4_orderByWidth 54 = .ok (.getfield 18, 3) := by decide +kernel
theorem dX4_orderByWidth_57 : decode cX4_orderByWidth 57 = .ok (.iload 4, 2) := by decide +kernel
theorem dX4_orderByWidth_59 : decode cX4_orderByWidth 59 = .ok (.iconst 1, 1) := by decide +kernel
theorem dX4_orderByWidth_60 : decode cX4_orderByWidth 60 = .ok (.isub, 1) := by decide +kernel
theorem dX4_orderByWidth_61 : decode cX4_orderByWidth 61 = .ok (.iaload, 1) := by decide +kernel
theorem dX4_orderByWidth_62 : decode cX4_orderByWidth 62 = .ok (.iastore, 1) := by decide +kernel
theorem dX4_orderByWidth_63 : decode cX4_orderByWidth 63 = .ok (.aload_n 0, 1) := by decide +kernel
theorem dX4_orderByWidth_64 : decode cX4_orderByWidth 64 = .ok (.getfield 18, 3) := by decide +kernel
theorem dX4_orderByWidth_67 : decode cX4_orderByWidth 67 = .ok (.iload 4, 2) := by decide +kernel
theorem dX4_orderByWidth_69 : decode cX4_orderByWidth 69 = .ok (.iconst 1, 1) := by decide +kernel
theorem dX4_orderByWidth_70 : decode cX4_orderByWidth 70 = .ok (.isub, 1) := by decide +kernel
theorem dX4_orderByWidth_71 : decode cX4_orderByWidth 71 = .ok (.iload 5, 2) := by decide +kernel
theorem dX4_orderByWidth_73 : decode cX4_orderByWidth 73 = .ok (.iastore, 1) := by decide +kernel
theorem dX4_orderByWidth_74 : decode cX4_orderByWidth 74 = .ok (.iinc 4 (-1), 3) := by decide +kernel
theorem dX4_orderByWidth_77 : decode cX4_orderByWidth 77 = .ok (.goto (-67), 3) := by decide +kernel
theorem dX4_orderByWidth_80 : decode cX4_orderByWidth 80 = .ok (.iinc 3 1, 3) := by decide +kernel
theorem dX4_orderByWidth_83 : decode cX4_orderByWidth 83 = .ok (.goto (-81), 3) := by decide +kernel
theorem dX4_orderByWidth_86 : decode cX4_orderByWidth 86 = .ok (.iconst 1, 1) := by decide +kernel
theorem dX4_orderByWidth_87 : decode cX4_orderByWidth 87 = .ok (.istore_n 3, 1) := by decide +kernel
theorem dX4_orderByWidth_88 : decode cX4_orderByWidth 88 = .ok (.iload_n 3, 1) := by decide +kernel
theorem dX4_orderByWidth_89 : decode cX4_orderByWidth 89 = .ok (.iload_n 2, 1) := by decide +kernel
theorem dX4_orderByWidth_90 : decode cX4_orderByWidth 90 = .ok (.if_icmp .ge 36, 3) := by decide +kernel
theorem dX4_orderByWidth_93 : decode cX4_orderByWidth 93 = .ok (.aload_n 0, 1) := by decide +kernel
theorem dX4_orderByWidth_94 : decode cX4_orderByWidth 94 = .ok (.getfield 21, 3) := by decide +kernel
theorem dX4_orderByWidth_97 : decode cX4_orderByWidth 97 = .ok (.iload_n 3, 1) := by decide +kernel
theorem dX4_orderByWidth_98 : decode cX4_orderByWidth 98 = .ok (.iconst 1, 1) := by decide +kernel
theorem dX4_orderByWidth_99 : decode cX4_orderByWidth 99 = .ok (.isub, 1) := by decide +kernel
theorem dX4_orderByWidth_100 : decode cX4_orderByWidth 100 = .ok (.aload_n 1, 1) := by decide +kernel
theorem dX4_orderByWidth_101 : decode cX4_orderByWidth 101 = .ok (.aload_n 0, 1) := by decide +kernel
theorem dX4_orderByWidth_102 : decode cX4_orderByWidth 102 = .ok (.getfield 18, 3) := by decide +kernel
theorem dX4_orderByWidth_105 : decode cX4_orderByWidth 105 = .ok (.iload_n 3, 1) := by decide +kernel
theorem dX4_orderByWidth_106 : decode cX4_orderByWidth 106 = .ok (.iaload, 1) := by decide +kernel
theorem dX4_orderByWidth_107 : decode cX4_orderByWidth 107 = .ok (.iaload, 1) := by decide +kernel
theorem dX4_orderByWidth_108 : decode cX4_orderByWidth 108 = .ok (.aload_n 1, 1) := by decide +kernel
theorem dX4_orderByWidth_109 : decode cX4_orderByWidth 109 = .ok (.aload_n 0, 1) := by decide +kernel
theorem dX4_orderByWidth_110 : decode cX4_orderByWidth 110 = .ok (.getfield 18, 3) := by decide +kernel
theorem dX4_orderByWidth_113 : decode cX4_orderByWidth 113 = .ok (.iload_n 3, 1) := by decide +kernel
theorem dX4_orderByWidth_114 : decode cX4_orderByWidth 114 = .ok (.iconst 1, 1) := by decide +kernel
theorem dX4_orderByWidth_115 : decode cX4_orderByWidth 115 = .ok (.isub, 1) := by decide +kernel
theorem dX4_orderByWidth_116 : decode cX4_orderByWidth 116 = .ok (.iaload, 1) := by decide +kernel
theorem dX4_orderByWidth_117 : decode cX4_orderByWidth 117 = .ok (.iaload, 1) := by decide +kernel
theorem dX4_orderByWidth_118 : decode cX4_orderByWidth 118 = .ok (.isub, 1) := by decide +kernel
theorem dX4_orderByWidth_119 : decode cX4_orderByWidth 119 = .ok (.iastore, 1) := by decide +kernel
theorem dX4_orderByWidth_120 : decode cX4_orderByWidth 120 = .ok (.iinc 3 1, 3) := by decide +kernel
theorem dX4_orderByWidth_123 : decode cX4_orderByWidth 123 = .ok (.goto (-35), 3) := by decide +kernel
theorem dX4_orderByWidth_126 : decode cX4_orderByWidth 126 = .ok (.return_, 1) := by decide +kernel
theorem dX4_price_0 : decode cX4_price 0 = .ok (.aload_n 0, 1) := by decide +kernel
theorem dX4_price_1 : decode cX4_price 1 = .ok (.iload_n 1, 1) := by decide +kernel
theorem dX4_price_2 : decode cX4_price 2 = .ok (.iload_n 2, 1) := by decide +kernel
theorem dX4_price_3 : decode cX4_price 3 = .ok (.iload_n 3, 1) := by decide +kernel
theorem dX4_price_4 : decode cX4_price 4 = .ok (.i2l, 1) := by decide +kernel
theorem dX4_price_5 : decode cX4_price 5 = .ok (.bipush 24, 2) := by decide +kernel
theorem dX4_price_7 : decode cX4_price 7 = .ok (.lshl, 1) := by decide +kernel
theorem dX4_price_8 : decode cX4_price 8 = .ok (.iload_n 1, 1) := by decide +kernel
theorem dX4_price_9 : decode cX4_price 9 = .ok (.i2l, 1) := by decide +kernel
theorem dX4_price_10 : decode cX4_price 10 = .ok (.iconst 3, 1) := by decide +kernel
theorem dX4_price_11 : decode cX4_price 11 = .ok (.bipush 7, 2) := by decide +kernel
theorem dX4_price_13 : decode cX4_price 13 = .ok (.iload_n 2, 1) := by decide +kernel
theorem dX4_price_14 : decode cX4_price 14 = .ok (.isub, 1) := by decide +kernel
theorem dX4_price_15 : decode cX4_price 15 = .ok (.imul, 1) := by decide +kernel
theorem dX4_price_16 : decode cX4_price 16 = .ok (.lshl, 1) := by decide +kernel
theorem dX4_price_17 : decode cX4_price 17 = .ok (.ladd, 1) := by decide +kernel
theorem dX4_price_18 : decode cX4_price 18 = .ok (.invokevirtual 72, 3) := by decide +kernel
theorem dX4_price_21 : decode cX4_price 21 = .ok (.return_, 1) := by decide +kernel
theorem dX4_priceOf_0 : decode cX4_priceOf 0 = .ok (.lload_n 0, 1) := by decide +kernel
theorem dX4_priceOf_1 : decode cX4_priceOf 1 = .ok (.bipush 24, 2) := by decide +kernel
theorem dX4_priceOf_3 : decode cX4_priceOf 3 = .ok (.lshr, 1) := by decide +kernel
theorem dX4_priceOf_4 : decode cX4_priceOf 4 = .ok (.l2i, 1) := by decide +kernel
theorem dX4_priceOf_5 : decode cX4_priceOf 5 = .ok (.ireturn, 1) := by decide +kernel
theorem dX4_riderIn_0 : decode cX4_riderIn 0 = .ok (.lload_n 0, 1) := by decide +kernel
theorem dX4_riderIn_1 : decode cX4_riderIn 1 = .ok (.iconst 3, 1) := by decide +kernel
theorem dX4_riderIn_2 : decode cX4_riderIn 2 = .ok (.bipush 7, 2) := by decide +kernel
theorem dX4_riderIn_4 : decode cX4_riderIn 4 = .ok (.iload_n 2, 1) := by decide +kernel
theorem dX4_riderIn_5 : decode cX4_riderIn 5 = .ok (.isub, 1) := by decide +kernel
theorem dX4_riderIn_6 : decode cX4_riderIn 6 = .ok (.imul, 1) := by decide +kernel
theorem dX4_riderIn_7 : decode cX4_riderIn 7 = .ok (.lshr, 1) := by decide +kernel
theorem dX4_riderIn_8 : decode cX4_riderIn 8 = .ok (.l2i, 1) := by decide +kernel
theorem dX4_riderIn_9 : decode cX4_riderIn 9 = .ok (.bipush 7, 2) := by decide +kernel
theorem dX4_riderIn_11 : decode cX4_riderIn 11 = .ok (.iand, 1) := by decide +kernel
theorem dX4_riderIn_12 : decode cX4_riderIn 12 = .ok (.ireturn, 1) := by decide +kernel
theorem dX4_seat_0 : decode cX4_seat 0 = .ok (.aload_n 0, 1) := by decide +kernel
theorem dX4_seat_1 : decode cX4_seat 1 = .ok (.getfield 9, 3) := by decide +kernel
theorem dX4_seat_4 : decode cX4_seat 4 = .ok (.iload_n 1, 1) := by decide +kernel
theorem dX4_seat_5 : decode cX4_seat 5 = .ok (.iload_n 2, 1) := by decide +kernel
theorem dX4_seat_6 : decode cX4_seat 6 = .ok (.aload_n 0, 1) := by decide +kernel
theorem dX4_seat_7 : decode cX4_seat 7 = .ok (.getfield 53, 3) := by decide +kernel
theorem dX4_seat_10 : decode cX4_seat 10 = .ok (.iand, 1) := by decide +kernel
theorem dX4_seat_11 : decode cX4_seat 11 = .ok (.iastore, 1) := by decide +kernel
theorem dX4_seat_12 : decode cX4_seat 12 = .ok (.aload_n 0, 1) := by decide +kernel
theorem dX4_seat_13 : decode cX4_seat 13 = .ok (.getfield 15, 3) := by decide +kernel
theorem dX4_seat_16 : decode cX4_seat 16 = .ok (.iload_n 1, 1) := by decide +kernel
theorem dX4_seat_17 : decode cX4_seat 17 = .ok (.iload_n 3, 1) := by decide +kernel
theorem dX4_seat_18 : decode cX4_seat 18 = .ok (.iastore, 1) := by decide +kernel
theorem dX4_seat_19 : decode cX4_seat 19 = .ok (.return_, 1) := by decide +kernel
theorem dX4_tallyAll_0 : decode cX4_tallyAll 0 = .ok (.aload_n 0, 1) := by decide +kernel
theorem dX4_tallyAll_1 : decode cX4_tallyAll 1 = .ok (.getfield 43, 3) := by decide +kernel
theorem dX4_tallyAll_4 : decode cX4_tallyAll 4 = .ok (.iconst 0, 1) := by decide +kernel
theorem dX4_tallyAll_5 : decode cX4_tallyAll 5 = .ok (.invokestatic 63, 3) := by decide +kernel
theorem dX4_tallyAll_8 : decode cX4_tallyAll 8 = .ok (.aload_n 0, 1) := by decide +kernel
theorem dX4_tallyAll_9 : decode cX4_tallyAll 9 = .ok (.getfield 40, 3) := by decide +kernel
theorem dX4_tallyAll_12 : decode cX4_tallyAll 12 = .ok (.iconst 0, 1) := by decide +kernel
theorem dX4_tallyAll_13 : decode cX4_tallyAll 13 = .ok (.invokestatic 63, 3) := by decide +kernel
theorem dX4_tallyAll_16 : decode cX4_tallyAll 16 = .ok (.aload_n 0, 1) := by decide +kernel
theorem dX4_tallyAll_17 : decode cX4_tallyAll 17 = .ok (.getfield 40, 3) := by decide +kernel
theorem dX4_tallyAll_20 : decode cX4_tallyAll 20 = .ok (.iconst 0, 1) := by decide +kernel
theorem dX4_tallyAll_21 : decode cX4_tallyAll 21 = .ok (.iconst 1, 1) := by decide +kernel
theorem dX4_tallyAll_22 : decode cX4_tallyAll 22 = .ok (.iastore, 1) := by decide +kernel
theorem dX4_tallyAll_23 : decode cX4_tallyAll 23 = .ok (.bipush 7, 2) := by decide +kernel
theorem dX4_tallyAll_25 : decode cX4_tallyAll 25 = .ok (.istore_n 1, 1) := by decide +kernel
theorem dX4_tallyAll_26 : decode cX4_tallyAll 26 = .ok (.iload_n 1, 1) := by decide +kernel
theorem dX4_tallyAll_27 : decode cX4_tallyAll 27 = .ok (.ifCond .lt 25, 3) := by decide +kernel
theorem dX4_tallyAll_30 : decode cX4_tallyAll 30 = .ok (.aload_n 0, 1) := by decide +kernel
theorem dX4_tallyAll_31 : decode cX4_tallyAll 31 = .ok (.iload_n 1, 1) := by decide +kernel
theorem dX4_tallyAll_32 : decode cX4_tallyAll 32 = .ok (.invokevirtual 108, 3) := by decide +kernel
theorem dX4_tallyAll_35 : decode cX4_tallyAll 35 = .ok (.aload_n 0, 1) := by decide +kernel
theorem dX4_tallyAll_36 : decode cX4_tallyAll 36 = .ok (.aload_n 0, 1) := by decide +kernel
theorem dX4_tallyAll_37 : decode cX4_tallyAll 37 = .ok (.getfield 40, 3) := by decide +kernel
theorem dX4_tallyAll_40 : decode cX4_tallyAll 40 = .ok (.iconst 0, 1) := by decide +kernel
theorem dX4_tallyAll_41 : decode cX4_tallyAll 41 = .ok (.iconst 0, 1) := by decide +kernel
theorem dX4_tallyAll_42 : decode cX4_tallyAll 42 = .ok (.iload_n 1, 1) := by decide +kernel
theorem dX4_tallyAll_43 : decode cX4_tallyAll 43 = .ok (.invokevirtual 104, 3) := by decide +kernel
theorem dX4_tallyAll_46 : decode cX4_tallyAll 46 = .ok (.iinc 1 (-1), 3) := by decide +kernel
theorem dX4_tallyAll_49 : decode cX4_tallyAll 49 = .ok (.goto (-23), 3) := by decide +kernel
theorem dX4_tallyAll_52 : decode cX4_tallyAll 52 = .ok (.return_, 1) := by decide +kernel
theorem dX4_tallyRider_0 : decode cX4_tallyRider 0 = .ok (.aload_n 0, 1) := by decide +kernel
theorem dX4_tallyRider_1 : decode cX4_tallyRider 1 = .ok (.getfield 9, 3) := by decide +kernel
theorem dX4_tallyRider_4 : decode cX4_tallyRider 4 = .ok (.iload_n 1, 1) := by decide +kernel
theorem dX4_tallyRider_5 : decode cX4_tallyRider 5 = .ok (.iaload, 1) := by decide +kernel
theorem dX4_tallyRider_6 : decode cX4_tallyRider 6 = .ok (.istore_n 2, 1) := by decide +kernel
theorem dX4_tallyRider_7 : decode cX4_tallyRider 7 = .ok (.iload_n 2, 1) := by decide +kernel
theorem dX4_tallyRider_8 : decode cX4_tallyRider 8 = .ok (.ifCond .le 88, 3) := by decide +kernel
theorem dX4_tallyRider_11 : decode cX4_tallyRider 11 = .ok (.iload_n 2, 1) := by decide +kernel
theorem dX4_tallyRider_12 : decode cX4_tallyRider 12 = .ok (.invokestatic 99, 3) := by decide +kernel
theorem dX4_tallyRider_15 : decode cX4_tallyRider 15 = .ok (.aload_n 0, 1) := by decide +kernel
theorem dX4_tallyRider_16 : decode cX4_tallyRider 16 = .ok (.getfield 15, 3) := by decide +kernel
theorem dX4_tallyRider_19 : decode cX4_tallyRider 19 = .ok (.iload_n 1, 1) := by decide +kernel
theorem dX4_tallyRider_20 : decode cX4_tallyRider 20 = .ok (.iaload, 1) := by decide +kernel
theorem dX4_tallyRider_21 : decode cX4_tallyRider 21 = .ok (.if_icmp .gt 61, 3) := by decide +kernel
theorem dX4_tallyRider_24 : decode cX4_tallyRider 24 = .ok (.aload_n 0, 1) := by decide +kernel
theorem dX4_tallyRider_25 : decode cX4_tallyRider 25 = .ok (.iload_n 1, 1) := by decide +kernel
theorem dX4_tallyRider_26 : decode cX4_tallyRider 26 = .ok (.aload_n 0, 1) := by decide +kernel
theorem dX4_tallyRider_27 : decode cX4_tallyRider 27 = .ok (.getfield 53, 3) := by decide +kernel
theorem dX4_tallyRider_30 : decode cX4_tallyRider 30 = .ok (.iload_n 2, 1) := by decide +kernel
theorem dX4_tallyRider_31 : decode cX4_tallyRider 31 = .ok (.ixor, 1) := by decide +kernel
theorem dX4_tallyRider_32 : decode cX4_tallyRider 32 = .ok (.invokevirtual 111, 3) := by decide +kernel
theorem dX4_tallyRider_35 : decode cX4_tallyRider 35 = .ok (.istore_n 3, 1) := by decide +kernel
theorem dX4_tallyRider_36 : decode cX4_tallyRider 36 = .ok (.iconst 0, 1) := by decide +kernel
theorem dX4_tallyRider_37 : decode cX4_tallyRider 37 = .ok (.istore 4, 2) := by decide +kernel
theorem dX4_tallyRider_39 : decode cX4_tallyRider 39 = .ok (.iload 4, 2) := by decide +kernel
theorem dX4_tallyRider_41 : decode cX4_tallyRider 41 = .ok (.bipush 8, 2) := by decide +kernel
theorem dX4_tallyRider_43 : decode cX4_tallyRider 43 = .ok (.if_icmp .ge 39, 3) := by decide +kernel
theorem dX4_tallyRider_46 : decode cX4_tallyRider 46 = .ok (.aload_n 0, 1) := by decide +kernel
theorem dX4_tallyRider_47 : decode cX4_tallyRider 47 = .ok (.getfield 43, 3) := by decide +kernel
theorem dX4_tallyRider_50 : decode cX4_tallyRider 50 = .ok (.iload 4, 2) := by decide +kernel
theorem dX4_tallyRider_52 : decode cX4_tallyRider 52 = .ok (.bipush 8, 2) := by decide +kernel
theorem dX4_tallyRider_54 : decode cX4_tallyRider 54 = .ok (.imul, 1) := by decide +kernel
theorem dX4_tallyRider_55 : decode cX4_tallyRider 55 = .ok (.iload_n 1, 1) := by decide +kernel
theorem dX4_tallyRider_56 : decode cX4_tallyRider 56 = .ok (.iadd, 1) := by decide +kernel
theorem dX4_tallyRider_57 : decode cX4_tallyRider 57 = .ok (.dup2, 1) := by decide +kernel
theorem dX4_tallyRider_58 : decode cX4_tallyRider 58 = .ok (.iaload, 1) := by decide +kernel
theorem dX4_tallyRider_59 : decode cX4_tallyRider 59 = .ok (.iload_n 2, 1) := by decide +kernel
theorem dX4_tallyRider_60 : decode cX4_tallyRider 60 = .ok (.iload 4, 2) := by decide +kernel
theorem dX4_tallyRider_62 : decode cX4_tallyRider 62 = .ok (.ishr, 1) := by decide +kernel
theorem dX4_tallyRider_63 : decode cX4_tallyRider 63 = .ok (.iconst 1, 1) := by decide +kernel
theorem dX4_tallyRider_64 : decode cX4_tallyRider 64 = .ok (.iand, 1) := by decide +kernel
theorem dX4_tallyRider_65 : decode cX4_tallyRider 65 = .ok (.iconst 1, 1) := by decide +kernel
theorem dX4_tallyRider_66 : decode cX4_tallyRider 66 = .ok (.if_icmp .ne 7, 3) := by decide +kernel
theorem dX4_tallyRider_69 : decode cX4_tallyRider 69 = .ok (.iload_n 3, 1) := by decide +kernel
theorem dX4_tallyRider_70 : decode cX4_tallyRider 70 = .ok (.goto 4, 3) := by decide +kernel
theorem dX4_tallyRider_73 : decode cX4_tallyRider 73 = .ok (.iconst 0, 1) := by decide +kernel
theorem dX4_tallyRider_74 : decode cX4_tallyRider 74 = .ok (.iadd, 1) := by decide +kernel
theorem dX4_tallyRider_75 : decode cX4_tallyRider 75 = .ok (.iastore, 1) := by decide +kernel
theorem dX4_tallyRider_76 : decode cX4_tallyRider 76 = .ok (.iinc 4 1, 3) := by decide +kernel
theorem dX4_tallyRider_79 : decode cX4_tallyRider 79 = .ok (.goto (-40), 3) := by decide +kernel
theorem dX4_tallyRider_82 : decode cX4_tallyRider 82 = .ok (.iload_n 2, 1) := by decide +kernel
theorem dX4_tallyRider_83 : decode cX4_tallyRider 83 = .ok (.iconst 1, 1) := by decide +kernel
theorem dX4_tallyRider_84 : decode cX4_tallyRider 84 = .ok (.isub, 1) := by decide +kernel
theorem dX4_tallyRider_85 : decode cX4_tallyRider 85 = .ok (.aload_n 0, 1) := by decide +kernel
theorem dX4_tallyRider_86 : decode cX4_tallyRider 86 = .ok (.getfield 9, 3) := by decide +kernel
theorem dX4_tallyRider_89 : decode cX4_tallyRider 89 = .ok (.iload_n 1, 1) := by decide +kernel
theorem dX4_tallyRider_90 : decode cX4_tallyRider 90 = .ok (.iaload, 1) := by decide +kernel
theorem dX4_tallyRider_91 : decode cX4_tallyRider 91 = .ok (.iand, 1) := by decide +kernel
theorem dX4_tallyRider_92 : decode cX4_tallyRider 92 = .ok (.istore_n 2, 1) := by decide +kernel
theorem dX4_tallyRider_93 : decode cX4_tallyRider 93 = .ok (.goto (-86), 3) := by decide +kernel
theorem dX4_tallyRider_96 : decode cX4_tallyRider 96 = .ok (.return_, 1) := by decide +kernel
theorem dX4_ways_0 : decode cX4_ways 0 = .ok (.iconst 0, 1) := by decide +kernel
theorem dX4_ways_1 : decode cX4_ways 1 = .ok (.istore_n 1, 1) := by decide +kernel
theorem dX4_ways_2 : decode cX4_ways 2 = .ok (.iload_n 1, 1) := by decide +kernel
theorem dX4_ways_3 : decode cX4_ways 3 = .ok (.sipush 256, 3) := by decide +kernel
theorem dX4_ways_6 : decode cX4_ways 6 = .ok (.if_icmp .ge 24, 3) := by decide +kernel
theorem dX4_ways_9 : decode cX4_ways 9 = .ok (.aload_n 0, 1) := by decide +kernel
theorem dX4_ways_10 : decode cX4_ways 10 = .ok (.getfield 37, 3) := by decide +kernel
theorem dX4_ways_13 : decode cX4_ways 13 = .ok (.iload_n 1, 1) := by decide +kernel
theorem dX4_ways_14 : decode cX4_ways 14 = .ok (.iload_n 1, 1) := by decide +kernel
theorem dX4_ways_15 : decode cX4_ways 15 = .ok (.ifCond .ne 7, 3) := by decide +kernel
theorem dX4_ways_18 : decode cX4_ways 18 = .ok (.iconst 1, 1) := by decide +kernel
theorem dX4_ways_19 : decode cX4_ways 19 = .ok (.goto 4, 3) := by decide +kernel
theorem dX4_ways_22 : decode cX4_ways 22 = .ok (.iconst 0, 1) := by decide +kernel
theorem dX4_ways_23 : decode cX4_ways 23 = .ok (.iastore, 1) := by decide +kernel
theorem dX4_ways_24 : decode cX4_ways 24 = .ok (.iinc 1 1, 3) := by decide +kernel
theorem dX4_ways_27 : decode cX4_ways 27 = .ok (.goto (-25), 3) := by decide +kernel
theorem dX4_ways_30 : decode cX4_ways 30 = .ok (.iconst 0, 1) := by decide +kernel
theorem dX4_ways_31 : decode cX4_ways 31 = .ok (.istore_n 1, 1) := by decide +kernel
theorem dX4_ways_32 : decode cX4_ways 32 = .ok (.iload_n 1, 1) := by decide +kernel
theorem dX4_ways_33 : decode cX4_ways 33 = .ok (.bipush 8, 2) := by decide +kernel
theorem dX4_ways_35 : decode cX4_ways 35 = .ok (.if_icmp .ge 30, 3) := by decide +kernel
theorem dX4_ways_38 : decode cX4_ways 38 = .ok (.aload_n 0, 1) := by decide +kernel
theorem dX4_ways_39 : decode cX4_ways 39 = .ok (.aload_n 0, 1) := by decide +kernel
theorem dX4_ways_40 : decode cX4_ways 40 = .ok (.getfield 37, 3) := by decide +kernel
theorem dX4_ways_43 : decode cX4_ways 43 = .ok (.iload_n 1, 1) := by decide +kernel
theorem dX4_ways_44 : decode cX4_ways 44 = .ok (.sipush 256, 3) := by decide +kernel
theorem dX4_ways_47 : decode cX4_ways 47 = .ok (.imul, 1) := by decide +kernel
theorem dX4_ways_48 : decode cX4_ways 48 = .ok (.iload_n 1, 1) := by decide +kernel
theorem dX4_ways_49 : decode cX4_ways 49 = .ok (.iconst 1, 1) := by decide +kernel
theorem dX4_ways_50 : decode cX4_ways 50 = .ok (.iadd, 1) := by decide +kernel
theorem dX4_ways_51 : decode cX4_ways 51 = .ok (.sipush 256, 3) := by decide +kernel
theorem dX4_ways_54 : decode cX4_ways 54 = .ok (.imul, 1) := by decide +kernel
theorem dX4_ways_55 : decode cX4_ways 55 = .ok (.iload_n 1, 1) := by decide +kernel
theorem dX4_ways_56 : decode cX4_ways 56 = .ok (.invokevirtual 104, 3) := by decide +kernel
theorem dX4_ways_59 : decode cX4_ways 59 = .ok (.iinc 1 1, 3) := by decide +kernel
theorem dX4_ways_62 : decode cX4_ways 62 = .ok (.goto (-30), 3) := by decide +kernel
theorem dX4_ways_65 : decode cX4_ways 65 = .ok (.aload_n 0, 1) := by decide +kernel
theorem dX4_ways_66 : decode cX4_ways 66 = .ok (.getfield 37, 3) := by decide +kernel
theorem dX4_ways_69 : decode cX4_ways 69 = .ok (.sipush 2048, 3) := by decide +kernel
theorem dX4_ways_72 : decode cX4_ways 72 = .ok (.aload_n 0, 1) := by decide +kernel
theorem dX4_ways_73 : decode cX4_ways 73 = .ok (.getfield 53, 3) := by decide +kernel
theorem dX4_ways_76 : decode cX4_ways 76 = .ok (.iadd, 1) := by decide +kernel
theorem dX4_ways_77 : decode cX4_ways 77 = .ok (.iaload, 1) := by decide +kernel
theorem dX4_ways_78 : decode cX4_ways 78 = .ok (.ireturn, 1) := by decide +kernel
theorem dX4_waysRound_0 : decode cX4_waysRound 0 = .ok (.aload_n 0, 1) := by decide +kernel
theorem dX4_waysRound_1 : decode cX4_waysRound 1 = .ok (.getfield 37, 3) := by decide +kernel
theorem dX4_waysRound_4 : decode cX4_waysRound 4 = .ok (.iload_n 1, 1) := by decide +kernel
theorem dX4_waysRound_5 : decode cX4_waysRound 5 = .ok (.sipush 256, 3) := by decide +kernel
theorem dX4_waysRound_8 : decode cX4_waysRound 8 = .ok (.imul, 1) := by decide +kernel
theorem dX4_waysRound_9 : decode cX4_waysRound 9 = .ok (.iaload, 1) := by decide +kernel
theorem dX4_waysRound_10 : decode cX4_waysRound 10 = .ok (.aload_n 0, 1) := by decide +kernel
theorem dX4_waysRound_11 : decode cX4_waysRound 11 = .ok (.getfield 40, 3) := by decide +kernel
theorem dX4_waysRound_14 : decode cX4_waysRound 14 = .ok (.iload_n 2, 1) := by decide +kernel
theorem dX4_waysRound_15 : decode cX4_waysRound 15 = .ok (.iaload, 1) := by decide +kernel
theorem dX4_waysRound_16 : decode cX4_waysRound 16 = .ok (.imul, 1) := by decide +kernel
theorem dX4_waysRound_17 : decode cX4_waysRound 17 = .ok (.istore_n 3, 1) := by decide +kernel
theorem dX4_waysRound_18 : decode cX4_waysRound 18 = .ok (.iload_n 2, 1) := by decide +kernel
theorem dX4_waysRound_19 : decode cX4_waysRound 19 = .ok (.istore 4, 2) := by decide +kernel
theorem dX4_waysRound_21 : decode cX4_waysRound 21 = .ok (.iload 4, 2) := by decide +kernel
theorem dX4_waysRound_23 : decode cX4_waysRound 23 = .ok (.ifCond .le 40, 3) := by decide +kernel
theorem dX4_waysRound_26 : decode cX4_waysRound 26 = .ok (.iload_n 3, 1) := by decide +kernel
theorem dX4_waysRound_27 : decode cX4_waysRound 27 = .ok (.aload_n 0, 1) := by decide +kernel
theorem dX4_waysRound_28 : decode cX4_waysRound 28 = .ok (.getfield 37, 3) := by decide +kernel
theorem dX4_waysRound_31 : decode cX4_waysRound 31 = .ok (.iload_n 1, 1) := by decide +kernel
theorem dX4_waysRound_32 : decode cX4_waysRound 32 = .ok (.sipush 256, 3) := by decide +kernel
theorem dX4_waysRound_35 : decode cX4_waysRound 35 = .ok (.imul, 1) := by decide +kernel
theorem dX4_waysRound_36 : decode cX4_waysRound 36 = .ok (.iload 4, 2) := by decide +kernel
theorem dX4_waysRound_38 : decode cX4_waysRound 38 = .ok (.iadd, 1) := by decide +kernel
theorem dX4_waysRound_39 : decode cX4_waysRound 39 = .ok (.iaload, 1) := by decide +kernel
theorem dX4_waysRound_40 : decode cX4_waysRound 40 = .ok (.aload_n 0, 1) := by decide +kernel
theorem dX4_waysRound_41 : decode cX4_waysRound 41 = .ok (.getfield 40, 3) := by decide +kernel
theorem dX4_waysRound_44 : decode cX4_waysRound 44 = .ok (.iload_n 2, 1) := by decide +kernel
theorem dX4_waysRound_45 : decode cX4_waysRound 45 = .ok (.iload 4, 2) := by decide +kernel
theorem dX4_waysRound_47 : decode cX4_waysRound 47 = .ok (.ixor, 1) := by decide +kernel
theorem dX4_waysRound_48 : decode cX4_waysRound 48 = .ok (.iaload, 1) := by decide +kernel
theorem dX4_waysRound_49 : decode cX4_waysRound 49 = .ok (.imul, 1) := by decide +kernel
theorem dX4_waysRound_50 : decode cX4_waysRound 50 = .ok (.iadd, 1) := by decide +kernel
theorem dX4_waysRound_51 : decode cX4_waysRound 51 = .ok (.istore_n 3, 1) := by decide +kernel
theorem dX4_waysRound_52 : decode cX4_waysRound 52 = .ok (.iload 4, 2) := by decide +kernel
theorem dX4_waysRound_54 : decode cX4_waysRound 54 = .ok (.iconst 1, 1) := by decide +kernel
theorem dX4_waysRound_55 : decode cX4_waysRound 55 = .ok (.isub, 1) := by decide +kernel
theorem dX4_waysRound_56 : decode cX4_waysRound 56 = .ok (.iload_n 2, 1) := by decide +kernel
theorem dX4_waysRound_57 : decode cX4_waysRound 57 = .ok (.iand, 1) := by decide +kernel
theorem dX4_waysRound_58 : decode cX4_waysRound 58 = .ok (.istore 4, 2) := by decide +kernel
theorem dX4_waysRound_60 : decode cX4_waysRound 60 = .ok (.goto (-39), 3) := by decide +kernel
theorem dX4_waysRound_63 : decode cX4_waysRound 63 = .ok (.iload_n 3, 1) := by decide +kernel
theorem dX4_waysRound_64 : decode cX4_waysRound 64 = .ok (.ireturn, 1) := by decide +kernel
theorem dX4_weigh_0 : decode cX4_weigh 0 = .ok (.aload_n 0, 1) := by decide +kernel
theorem dX4_weigh_1 : decode cX4_weigh 1 = .ok (.getfield 31, 3) := by decide +kernel
theorem dX4_weigh_4 : decode cX4_weigh 4 = .ok (.iconst 0, 1) := by decide +kernel
theorem dX4_weigh_5 : decode cX4_weigh 5 = .ok (.lconst 0, 1) := by decide +kernel
theorem dX4_weigh_6 : decode cX4_weigh 6 = .ok (.lastore, 1) := by decide +kernel
theorem dX4_weigh_7 : decode cX4_weigh 7 = .ok (.iconst 1, 1) := by decide +kernel
theorem dX4_weigh_8 : decode cX4_weigh 8 = .ok (.istore_n 2, 1) := by decide +kernel
theorem dX4_weigh_9 : decode cX4_weigh 9 = .ok (.iload_n 2, 1) := by decide +kernel
theorem dX4_weigh_10 : decode cX4_weigh 10 = .ok (.aload_n 0, 1) := by decide +kernel
theorem dX4_weigh_11 : decode cX4_weigh 11 = .ok (.getfield 53, 3) := by decide +kernel
theorem dX4_weigh_14 : decode cX4_weigh 14 = .ok (.if_icmp .gt 110, 3) := by decide +kernel
theorem dX4_weigh_17 : decode cX4_weigh 17 = .ok (.iload_n 2, 1) := by decide +kernel
theorem dX4_weigh_18 : decode cX4_weigh 18 = .ok (.aload_n 0, 1) := by decide +kernel
theorem dX4_weigh_19 : decode cX4_weigh 19 = .ok (.getfield 9, 3) := by decide +kernel
theorem dX4_weigh_22 : decode cX4_weigh 22 = .ok (.iload_n 1, 1) := by decide +kernel
theorem dX4_weigh_23 : decode cX4_weigh 23 = .ok (.iaload, 1) := by decide +kernel
theorem dX4_weigh_24 : decode cX4_weigh 24 = .ok (.iconst (-1), 1) := by decide +kernel
theorem dX4_weigh_25 : decode cX4_weigh 25 = .ok (.ixor, 1) := by decide +kernel
theorem dX4_weigh_26 : decode cX4_weigh 26 = .ok (.iand, 1) := by decide +kernel
theorem dX4_weigh_27 : decode cX4_weigh 27 = .ok (.ifCond .eq 6, 3) := by decide +kernel
theorem dX4_weigh_30 : decode cX4_weigh 30 = .ok (.goto 88, 3) := by decide +kernel
theorem dX4_weigh_33 : decode cX4_weigh 33 = .ok (.iload_n 2, 1) := by decide +kernel
theorem dX4_weigh_34 : decode cX4_weigh 34 = .ok (.iload_n 2, 1) := by decide +kernel
theorem dX4_weigh_35 : decode cX4_weigh 35 = .ok (.iconst 1, 1) := by decide +kernel
theorem dX4_weigh_36 : decode cX4_weigh 36 = .ok (.isub, 1) := by decide +kernel
theorem dX4_weigh_37 : decode cX4_weigh 37 = .ok (.iand, 1) := by decide +kernel
theorem dX4_weigh_38 : decode cX4_weigh 38 = .ok (.istore_n 3, 1) := by decide +kernel
theorem dX4_weigh_39 : decode cX4_weigh 39 = .ok (.aload_n 0, 1) := by decide +kernel
theorem dX4_weigh_40 : decode cX4_weigh 40 = .ok (.getfield 31, 3) := by decide +kernel
theorem dX4_weigh_43 : decode cX4_weigh 43 = .ok (.iload_n 3, 1) := by decide +kernel
theorem dX4_weigh_44 : decode cX4_weigh 44 = .ok (.laload, 1) := by decide +kernel
theorem dX4_weigh_45 : decode cX4_weigh 45 = .ok (.aload_n 0, 1) := by decide +kernel
theorem dX4_weigh_46 : decode cX4_weigh 46 = .ok (.getfield 24, 3) := by decide +kernel
theorem dX4_weigh_49 : decode cX4_weigh 49 = .ok (.iload_n 1, 1) := by decide +kernel
theorem dX4_weigh_50 : decode cX4_weigh 50 = .ok (.bipush 8, 2) := by decide +kernel
theorem dX4_weigh_52 : decode cX4_weigh 52 = .ok (.imul, 1) := by decide +kernel
theorem dX4_weigh_53 : decode cX4_weigh 53 = .ok (.iload_n 2, 1) := by decide +kernel
theorem dX4_weigh_54 : decode cX4_weigh 54 = .ok (.invokestatic 95, 3) := by decide +kernel
theorem dX4_weigh_57 : decode cX4_weigh 57 = .ok (.iadd, 1) := by decide +kernel
theorem dX4_weigh_58 : decode cX4_weigh 58 = .ok (.laload, 1) := by decide +kernel
theorem dX4_weigh_59 : decode cX4_weigh 59 = .ok (.ladd, 1) := by decide +kernel
theorem dX4_weigh_60 : decode cX4_weigh 60 = .ok (.lstore 4, 2) := by decide +kernel
theorem dX4_weigh_62 : decode cX4_weigh 62 = .ok (.lload 4, 2) := by decide +kernel
theorem dX4_weigh_64 : decode cX4_weigh 64 = .ok (.iload_n 3, 1) := by decide +kernel
theorem dX4_weigh_65 : decode cX4_weigh 65 = .ok (.ifCond .ne 12, 3) := by decide +kernel
theorem dX4_weigh_68 : decode cX4_weigh 68 = .ok (.aload_n 0, 1) := by decide +kernel
theorem dX4_weigh_69 : decode cX4_weigh 69 = .ok (.getfield 28, 3) := by decide +kernel
theorem dX4_weigh_72 : decode cX4_weigh 72 = .ok (.iload_n 1, 1) := by decide +kernel
theorem dX4_weigh_73 : decode cX4_weigh 73 = .ok (.laload, 1) := by decide +kernel
theorem dX4_weigh_74 : decode cX4_weigh 74 = .ok (.goto 4, 3) := by decide +kernel
theorem dX4_weigh_77 : decode cX4_weigh 77 = .ok (.lconst 0, 1) := by decide +kernel
theorem dX4_weigh_78 : decode cX4_weigh 78 = .ok (.ladd, 1) := by decide +kernel
theorem dX4_weigh_79 : decode cX4_weigh 79 = .ok (.lstore 4, 2) := by decide +kernel
theorem dX4_weigh_81 : decode cX4_weigh 81 = .ok (.aload_n 0, 1) := by decide +kernel
theorem dX4_weigh_82 : decode cX4_weigh 82 = .ok (.getfield 31, 3) := by decide +kernel
theorem dX4_weigh_85 : decode cX4_weigh 85 = .ok (.iload_n 2, 1) := by decide +kernel
theorem dX4_weigh_86 : decode cX4_weigh 86 = .ok (.iload_n 2, 1) := by decide +kernel
theorem dX4_weigh_87 : decode cX4_weigh 87 = .ok (.invokestatic 99, 3) := by decide +kernel
theorem dX4_weigh_90 : decode cX4_weigh 90 = .ok (.aload_n 0, 1) := by decide +kernel
theorem dX4_weigh_91 : decode cX4_weigh 91 = .ok (.getfield 15, 3) := by decide +kernel
theorem dX4_weigh_94 : decode cX4_weigh 94 = .ok (.iload_n 1, 1) := by decide +kernel
theorem dX4_weigh_95 : decode cX4_weigh 95 = .ok (.iaload, 1) := by decide +kernel
theorem dX4_weigh_96 : decode cX4_weigh 96 = .ok (.if_icmp .gt 13, 3) := by decide +kernel
theorem dX4_weigh_99 : decode cX4_weigh 99 = .ok (.lload 4, 2) := by decide +kernel
theorem dX4_weigh_101 : decode cX4_weigh 101 = .ok (.aload_n 0, 1) := by decide +kernel
theorem dX4_weigh_102 : decode cX4_weigh 102 = .ok (.getfield 59, 3) := by decide +kernel
theorem dX4_weigh_105 : decode cX4_weigh 105 = .ok (.lcmp, 1) := by decide +kernel
theorem dX4_weigh_106 : decode cX4_weigh 106 = .ok (.ifCond .le 9, 3) := by decide +kernel
theorem dX4_weigh_109 : decode cX4_weigh 109 = .ok (.ldc2_w 80, 3) := by decide +kernel
theorem dX4_weigh_112 : decode cX4_weigh 112 = .ok (.goto 5, 3) := by decide +kernel
theorem dX4_weigh_115 : decode cX4_weigh 115 = .ok (.lload 4, 2) := by decide +kernel
theorem dX4_weigh_117 : decode cX4_weigh 117 = .ok (.lastore, 1) := by decide +kernel
theorem dX4_weigh_118 : decode cX4_weigh 118 = .ok (.iinc 2 1, 3) := by decide +kernel
theorem dX4_weigh_121 : decode cX4_weigh 121 = .ok (.goto (-112), 3) := by decide +kernel
theorem dX4_weigh_124 : decode cX4_weigh 124 = .ok (.return_, 1) := by decide +kernel
theorem dX5_copy_0 : decode cX5_copy 0 = .ok (.aload_n 1, 1) := by decide +kernel
theorem dX5_copy_1 : decode cX5_copy 1 = .ok (.getfield 9, 3) := by decide +kernel
theorem dX5_copy_4 : decode cX5_copy 4 = .ok (.iconst 0, 1) := by decide +kernel
theorem dX5_copy_5 : decode cX5_copy 5 = .ok (.aload_n 0, 1) := by decide +kernel
theorem dX5_copy_6 : decode cX5_copy 6 = .ok (.getfield 9, 3) := by decide +kernel
theorem dX5_copy_9 : decode cX5_copy 9 = .ok (.iconst 0, 1) := by decide +kernel
theorem dX5_copy_10 : decode cX5_copy 10 = .ok (.bipush 8, 2) := by decide +kernel
theorem dX5_copy_12 : decode cX5_copy 12 = .ok (.invokestatic 24, 3) := by decide +kernel
theorem dX5_copy_15 : decode cX5_copy 15 = .ok (.aload_n 1, 1) := by decide +kernel
theorem dX5_copy_16 : decode cX5_copy 16 = .ok (.getfield 15, 3) := by decide +kernel
theorem dX5_copy_19 : decode cX5_copy 19 = .ok (.iconst 0, 1) := by decide +kernel
theorem dX5_copy_20 : decode cX5_copy 20 = .ok (.aload_n 0, 1) := by decide +kernel
theorem dX5_copy_21 : decode cX5_copy 21 = .ok (.getfield 15, 3) := by decide +kernel
theorem dX5_copy_24 : decode cX5_copy 24 = .ok (.iconst 0, 1) := by decide +kernel
theorem dX5_copy_25 : decode cX5_copy 25 = .ok (.bipush 8, 2) := by decide +kernel
theorem dX5_copy_27 : decode cX5_copy 27 = .ok (.invokestatic 24, 3) := by decide +kernel
theorem dX5_copy_30 : decode cX5_copy 30 = .ok (.aload_n 0, 1) := by decide +kernel
theorem dX5_copy_31 : decode cX5_copy 31 = .ok (.aload_n 1, 1) := by decide +kernel
theorem dX5_copy_32 : decode cX5_copy 32 = .ok (.getfield 30, 3) := by decide +kernel
theorem dX5_copy_35 : decode cX5_copy 35 = .ok (.putfield 30, 3) := by decide +kernel
theorem dX5_copy_38 : decode cX5_copy 38 = .ok (.aload_n 0, 1) := by decide +kernel
theorem dX5_copy_39 : decode cX5_copy 39 = .ok (.aload_n 1, 1) := by decide +kernel
theorem dX5_copy_40 : decode cX5_copy 40 = .ok (.getfield 34, 3) := by decide +kernel
theorem dX5_copy_43 : decode cX5_copy 43 = .ok (.putfield 34, 3) := by decide +kernel
theorem dX5_copy_46 : decode cX5_copy 46 = .ok (.aload_n 0, 1) := by decide +kernel
theorem dX5_copy_47 : decode cX5_copy 47 = .ok (.aload_n 1, 1) := by decide +kernel
theorem dX5_copy_48 : decode cX5_copy 48 = .ok (.getfield 37, 3) := by decide +kernel
theorem dX5_copy_51 : decode cX5_copy 51 = .ok (.putfield 37, 3) := by decide +kernel
theorem dX5_copy_54 : decode cX5_copy 54 = .ok (.aload_n 0, 1) := by decide +kernel
theorem dX5_copy_55 : decode cX5_copy 55 = .ok (.aload_n 1, 1) := by decide +kernel
theorem dX5_copy_56 : decode cX5_copy 56 = .ok (.getfield 40, 3) := by decide +kernel
theorem dX5_copy_59 : decode cX5_copy 59 = .ok (.putfield 40, 3) := by decide +kernel
theorem dX5_copy_62 : decode cX5_copy 62 = .ok (.return_, 1) := by decide +kernel
theorem dX5_hoursOf_0 : decode cX5_hoursOf 0 = .ok (.iconst 0, 1) := by decide +kernel
theorem dX5_hoursOf_1 : decode cX5_hoursOf 1 = .ok (.istore_n 2, 1) := by decide +kernel
theorem dX5_hoursOf_2 : decode cX5_hoursOf 2 = .ok (.iconst 0, 1) := by decide +kernel
theorem dX5_hoursOf_3 : decode cX5_hoursOf 3 = .ok (.istore_n 3, 1) := by decide +kernel
theorem dX5_hoursOf_4 : decode cX5_hoursOf 4 = .ok (.iload_n 3, 1) := by decide +kernel
theorem dX5_hoursOf_5 : decode cX5_hoursOf 5 = .ok (.bipush 8, 2) := by decide +kernel
theorem dX5_hoursOf_7 : decode cX5_hoursOf 7 = .ok (.if_icmp .ge 29, 3) := by decide +kernel
theorem dX5_hoursOf_10 : decode cX5_hoursOf 10 = .ok (.iload_n 2, 1) := by decide +kernel
theorem dX5_hoursOf_11 : decode cX5_hoursOf 11 = .ok (.aload_n 0, 1) := by decide +kernel
theorem dX5_hoursOf_12 : decode cX5_hoursOf 12 = .ok (.getfield 9, 3) := by decide +kernel
theorem dX5_hoursOf_15 : decode cX5_hoursOf 15 = .ok (.iload_n 3, 1) := by decide +kernel
theorem dX5_hoursOf_16 : decode cX5_hoursOf 16 = .ok (.iaload, 1) := by decide +kernel
theorem dX5_hoursOf_17 : decode cX5_hoursOf 17 = .ok (.iload_n 1, 1) := by decide +kernel
theorem dX5_hoursOf_18 : decode cX5_hoursOf 18 = .ok (.if_icmp .ne 9, 3) := by decide +kernel
theorem dX5_hoursOf_21 : decode cX5_hoursOf 21 = .ok (.iconst 1, 1) := by decide +kernel
theorem dX5_hoursOf_22 : decode cX5_hoursOf 22 = .ok (.iload_n 3, 1) := by decide +kernel
theorem dX5_hoursOf_23 : decode cX5_hoursOf 23 = .ok (.ishl, 1) := by decide +kernel
theorem dX5_hoursOf_24 : decode cX5_hoursOf 24 = .ok (.goto 4, 3) := by decide +kernel
theorem dX5_hoursOf_27 : decode cX5_hoursOf 27 = .ok (.iconst 0, 1) := by decide +kernel
theorem dX5_hoursOf_28 : decode cX5_hoursOf 28 = .ok (.ior, 1) := by decide +kernel
theorem dX5_hoursOf_29 : decode cX5_hoursOf 29 = .ok (.istore_n 2, 1) := by decide +kernel
theorem dX5_hoursOf_30 : decode cX5_hoursOf 30 = .ok (.iinc 3 1, 3) := by decide +kernel
theorem dX5_hoursOf_33 : decode cX5_hoursOf 33 = .ok (.goto (-29), 3) := by decide +kernel
theorem dX5_hoursOf_36 : decode cX5_hoursOf 36 = .ok (.iload_n 2, 1) := by decide +kernel
theorem dX5_hoursOf_37 : decode cX5_hoursOf 37 = .ok (.ireturn, 1) := by decide +kernel
theorem dX5_init_0 : decode cX5_init 0 = .ok (.aload_n 0, 1) := by decide +kernel
theorem dX5_init_1 : decode cX5_init 1 = .ok (.invokespecial 3, 3) := by decide +kernel
theorem dX5_init_4 : decode cX5_init 4 = .ok (.aload_n 0, 1) := by decide +kernel
theorem dX5_init_5 : decode cX5_init 5 = .ok (.bipush 8, 2) := by decide +kernel
theorem dX5_init_7 : decode cX5_init 7 = .ok (.newarray .int, 2) := by decide +kernel
theorem dX5_init_9 : decode cX5_init 9 = .ok (.putfield 9, 3) := by decide +kernel
theorem dX5_init_12 : decode cX5_init 12 = .ok (.aload_n 0, 1) := by decide +kernel
theorem dX5_init_13 : decode cX5_init 13 = .ok (.bipush 8, 2) := by decide +kernel
theorem dX5_init_15 : decode cX5_init 15 = .ok (.newarray .int, 2) := by decide +kernel
theorem dX5_init_17 : decode cX5_init 17 = .ok (.putfield 15, 3) := by decide +kernel
theorem dX5_init_20 : decode cX5_init 20 = .ok (.aload_n 0, 1) := by decide +kernel
theorem dX5_init_21 : decode cX5_init 21 = .ok (.getfield 9, 3) := by decide +kernel
theorem dX5_init_24 : decode cX5_init 24 = .ok (.iconst (-1), 1) := by decide +kernel
theorem dX5_init_25 : decode cX5_init 25 = .ok (.invokestatic 18, 3) := by decide +kernel
theorem dX5_init_28 : decode cX5_init 28 = .ok (.return_, 1) := by decide +kernel
theorem dX5_isIll_0 : decode cX5_isIll 0 = .ok (.aload_n 0, 1) := by decide +kernel
theorem dX5_isIll_1 : decode cX5_isIll 1 = .ok (.getfield 30, 3) := by decide +kernel
theorem dX5_isIll_4 : decode cX5_isIll 4 = .ok (.iload_n 1, 1) := by decide +kernel
theorem dX5_isIll_5 : decode cX5_isIll 5 = .ok (.ishr, 1) := by decide +kernel
theorem dX5_isIll_6 : decode cX5_isIll 6 = .ok (.iconst 1, 1) := by decide +kernel
theorem dX5_isIll_7 : decode cX5_isIll 7 = .ok (.iand, 1) := by decide +kernel
theorem dX5_isIll_8 : decode cX5_isIll 8 = .ok (.iconst 1, 1) := by decide +kernel
theorem dX5_isIll_9 : decode cX5_isIll 9 = .ok (.if_icmp .ne 7, 3) := by decide +kernel
theorem dX5_isIll_12 : decode cX5_isIll 12 = .ok (.iconst 1, 1) := by decide +kernel
theorem dX5_isIll_13 : decode cX5_isIll 13 = .ok (.goto 4, 3) := by decide +kernel
theorem dX5_isIll_16 : decode cX5_isIll 16 = .ok (.iconst 0, 1) := by decide +kernel
theorem dX5_isIll_17 : decode cX5_isIll 17 = .ok (.ireturn, 1) := by decide +kernel
theorem dX5_mostTired_0 : decode cX5_mostTired 0 = .ok (.iconst 0, 1) := by decide +kernel
theorem dX5_mostTired_1 : decode cX5_mostTired 1 = .ok (.istore_n 1, 1) := by decide +kernel
theorem dX5_mostTired_2 : decode cX5_mostTired 2 = .ok (.iconst 0, 1) := by decide +kernel
theorem dX5_mostTired_3 : decode cX5_mostTired 3 = .ok (.istore_n 2, 1) := by decide +kernel
theorem dX5_mostTired_4 : decode cX5_mostTired 4 = .ok (.iload_n 2, 1) := by decide +kernel
theorem dX5_mostTired_5 : decode cX5_mostTired 5 = .ok (.bipush 8, 2) := by decide +kernel
theorem dX5_mostTired_7 : decode cX5_mostTired 7 = .ok (.if_icmp .ge 20, 3) := by decide +kernel
theorem dX5_mostTired_10 : decode cX5_mostTired 10 = .ok (.iload_n 1, 1) := by decide +kernel
theorem dX5_mostTired_11 : decode cX5_mostTired 11 = .ok (.aload_n 0, 1) := by decide +kernel
theorem dX5_mostTired_12 : decode cX5_mostTired 12 = .ok (.getfield 15, 3) := by decide +kernel
theorem dX5_mostTired_15 : decode cX5_mostTired 15 = .ok (.iload_n 2, 1) := by decide +kernel
theorem dX5_mostTired_16 : decode cX5_mostTired 16 = .ok (.iaload, 1) := by decide +kernel
theorem dX5_mostTired_17 : decode cX5_mostTired 17 = .ok (.invokestatic 43, 3) := by decide +kernel
theorem dX5_mostTired_20 : decode cX5_mostTired 20 = .ok (.istore_n 1, 1) := by decide +kernel
theorem dX5_mostTired_21 : decode cX5_mostTired 21 = .ok (.iinc 2 1, 3) := by decide +kernel
theorem dX5_mostTired_24 : decode cX5_mostTired 24 = .ok (.goto (-20), 3) := by decide +kernel
theorem dX5_mostTired_27 : decode cX5_mostTired 27 = .ok (.iload_n 1, 1) := by decide +kernel
theorem dX5_mostTired_28 : decode cX5_mostTired 28 = .ok (.ireturn, 1) := by decide +kernel
theorem dX5_tiredOfAll_0 : decode cX5_tiredOfAll 0 = .ok (.iconst 0, 1) := by decide +kernel
theorem dX5_tiredOfAll_1 : decode cX5_tiredOfAll 1 = .ok (.istore_n 1, 1) := by decide +kernel
theorem dX5_tiredOfAll_2 : decode cX5_tiredOfAll 2 = .ok (.iconst 0, 1) := by decide +kernel
theorem dX5_tiredOfAll_3 : decode cX5_tiredOfAll 3 = .ok (.istore_n 2, 1) := by decide +kernel
theorem dX5_tiredOfAll_4 : decode cX5_tiredOfAll 4 = .ok (.iload_n 2, 1) := by decide +kernel
theorem dX5_tiredOfAll_5 : decode cX5_tiredOfAll 5 = .ok (.bipush 8, 2) := by decide +kernel
theorem dX5_tiredOfAll_7 : decode cX5_tiredOfAll 7 = .ok (.if_icmp .ge 18, 3) := by decide +kernel
theorem dX5_tiredOfAll_10 : decode cX5_tiredOfAll 10 = .ok (.iload_n 1, 1) := by decide +kernel
theorem dX5_tiredOfAll_11 : decode cX5_tiredOfAll 11 = .ok (.aload_n 0, 1) := by decide +kernel
theorem dX5_tiredOfAll_12 : decode cX5_tiredOfAll 12 = .ok (.getfield 15, 3) := by decide +kernel
theorem dX5_tiredOfAll_15 : decode cX5_tiredOfAll 15 = .ok (.iload_n 2, 1) := by decide +kernel
theorem dX5_tiredOfAll_16 : decode cX5_tiredOfAll 16 = .ok (.iaload, 1) := by decide +kernel
theorem dX5_tiredOfAll_17 : decode cX5_tiredOfAll 17 = .ok (.iadd, 1) := by decide +kernel
theorem dX5_tiredOfAll_18 : decode cX5_tiredOfAll 18 = .ok (.istore_n 1, 1) := by decide +kernel
theorem dX5_tiredOfAll_19 : decode cX5_tiredOfAll 19 = .ok (.iinc 2 1, 3) := by decide +kernel
theorem dX5_tiredOfAll_22 : decode cX5_tiredOfAll 22 = .ok (.goto (-18), 3) := by decide +kernel
theorem dX5_tiredOfAll_25 : decode cX5_tiredOfAll 25 = .ok (.iload_n 1, 1) := by decide +kernel
theorem dX5_tiredOfAll_26 : decode cX5_tiredOfAll 26 = .ok (.ireturn, 1) := by decide +kernel
theorem dX5_turnIll_0 : decode cX5_turnIll 0 = .ok (.aload_n 0, 1) := by decide +kernel
theorem dX5_turnIll_1 : decode cX5_turnIll 1 = .ok (.dup, 1) := by decide +kernel
theorem dX5_turnIll_2 : decode cX5_turnIll 2 = .ok (.getfield 30, 3) := by decide +kernel
theorem dX5_turnIll_5 : decode cX5_turnIll 5 = .ok (.iconst 1, 1) := by decide +kernel
theorem dX5_turnIll_6 : decode cX5_turnIll 6 = .ok (.iload_n 1, 1) := by decide +kernel
theorem dX5_turnIll_7 : decode cX5_turnIll 7 = .ok (.ishl, 1) := by decide +kernel
theorem dX5_turnIll_8 : decode cX5_turnIll 8 = .ok (.ixor, 1) := by decide +kernel
theorem dX5_turnIll_9 : decode cX5_turnIll 9 = .ok (.putfield 30, 3) := by decide +kernel
theorem dX5_turnIll_12 : decode cX5_turnIll 12 = .ok (.return_, 1) := by decide +kernel
theorem dX6_add_0 : decode cX6_add 0 = .ok (.aload_n 0, 1) := by decide +kernel
theorem dX6_add_1 : decode cX6_add 1 = .ok (.getfield 15, 3) := by decide +kernel
theorem dX6_add_4 : decode cX6_add 4 = .ok (.iconst 4, 1) := by decide +kernel
theorem dX6_add_5 : decode cX6_add 5 = .ok (.iadd, 1) := by decide +kernel
theorem dX6_add_6 : decode cX6_add 6 = .ok (.bipush 80, 2) := by decide +kernel
theorem dX6_add_8 : decode cX6_add 8 = .ok (.if_icmp .le 5, 3) := by decide +kernel
theorem dX6_add_11 : decode cX6_add 11 = .ok (.iconst (-1), 1) := by decide +kernel
theorem dX6_add_12 : decode cX6_add 12 = .ok (.ireturn, 1) := by decide +kernel
theorem dX6_add_13 : decode cX6_add 13 = .ok (.bipush 24, 2) := by decide +kernel
theorem dX6_add_15 : decode cX6_add 15 = .ok (.istore_n 2, 1) := by decide +kernel
theorem dX6_add_16 : decode cX6_add 16 = .ok (.iload_n 2, 1) := by decide +kernel
theorem dX6_add_17 : decode cX6_add 17 = .ok (.ifCond .lt 35, 3) := by decide +kernel
theorem dX6_add_20 : decode cX6_add 20 = .ok (.aload_n 0, 1) := by decide +kernel
theorem dX6_add_21 : decode cX6_add 21 = .ok (.getfield 11, 3) := by decide +kernel
theorem dX6_add_24 : decode cX6_add 24 = .ok (.aload_n 0, 1) := by decide +kernel
theorem dX6_add_25 : decode cX6_add 25 = .ok (.getfield 15, 3) := by decide +kernel
theorem dX6_add_28 : decode cX6_add 28 = .ok (.iload_n 1, 1) := by decide +kernel
theorem dX6_add_29 : decode cX6_add 29 = .ok (.iload_n 2, 1) := by decide +kernel
theorem dX6_add_30 : decode cX6_add 30 = .ok (.iushr, 1) := by decide +kernel
theorem dX6_add_31 : decode cX6_add 31 = .ok (.sipush 255, 3) := by decide +kernel
theorem dX6_add_34 : decode cX6_add 34 = .ok (.iand, 1) := by decide +kernel
theorem dX6_add_35 : decode cX6_add 35 = .ok (.iastore, 1) := by decide +kernel
theorem dX6_add_36 : decode cX6_add 36 = .ok (.aload_n 0, 1) := by decide +kernel
theorem dX6_add_37 : decode cX6_add 37 = .ok (.dup, 1) := by decide +kernel
theorem dX6_add_38 : decode cX6_add 38 = .ok (.getfield 15, 3) := by decide +kernel
theorem dX6_add_41 : decode cX6_add 41 = .ok (.iconst 1, 1) := by decide +kernel
theorem dX6_add_42 : decode cX6_add 42 = .ok (.iadd, 1) := by decide +kernel
theorem dX6_add_43 : decode cX6_add 43 = .ok (.putfield 15, 3) := by decide +kernel
theorem dX6_add_46 : decode cX6_add 46 = .ok (.iinc 2 (-8), 3) := by decide +kernel
theorem dX6_add_49 : decode cX6_add 49 = .ok (.goto (-33), 3) := by decide +kernel
theorem dX6_add_52 : decode cX6_add 52 = .ok (.aload_n 0, 1) := by decide +kernel
theorem dX6_add_53 : decode cX6_add 53 = .ok (.getfield 15, 3) := by decide +kernel
theorem dX6_add_56 : decode cX6_add 56 = .ok (.ireturn, 1) := by decide +kernel
theorem dX6_at_0 : decode cX6_at 0 = .ok (.iload_n 1, 1) := by decide +kernel
theorem dX6_at_1 : decode cX6_at 1 = .ok (.ifCond .lt 20, 3) := by decide +kernel
theorem dX6_at_4 : decode cX6_at 4 = .ok (.iload_n 1, 1) := by decide +kernel
theorem dX6_at_5 : decode cX6_at 5 = .ok (.aload_n 0, 1) := by decide +kernel
theorem dX6_at_6 : decode cX6_at 6 = .ok (.getfield 15, 3) := by decide +kernel
theorem dX6_at_9 : decode cX6_at 9 = .ok (.if_icmp .ge 12, 3) := by decide +kernel
theorem dX6_at_12 : decode cX6_at 12 = .ok (.aload_n 0, 1) := by decide +kernel
theorem dX6_at_13 : decode cX6_at 13 = .ok (.getfield 11, 3) := by decide +kernel
theorem dX6_at_16 : decode cX6_at 16 = .ok (.iload_n 1, 1) := by decide +kernel
theorem dX6_at_17 : decode cX6_at 17 = .ok (.iaload, 1) := by decide +kernel
theorem dX6_at_18 : decode cX6_at 18 = .ok (.goto 4, 3) := by decide +kernel
theorem dX6_at_21 : decode cX6_at 21 = .ok (.iconst (-1), 1) := by decide +kernel
theorem dX6_at_22 : decode cX6_at 22 = .ok (.ireturn, 1) := by decide +kernel
theorem dX6_cut_0 : decode cX6_cut 0 = .ok (.iload_n 1, 1) := by decide +kernel
theorem dX6_cut_1 : decode cX6_cut 1 = .ok (.ifCond .lt 11, 3) := by decide +kernel
theorem dX6_cut_4 : decode cX6_cut 4 = .ok (.iload_n 1, 1) := by decide +kernel
theorem dX6_cut_5 : decode cX6_cut 5 = .ok (.aload_n 0, 1) := by decide +kernel
theorem dX6_cut_6 : decode cX6_cut 6 = .ok (.getfield 15, 3) := by decide +kernel
theorem dX6_cut_9 : decode cX6_cut 9 = .ok (.if_icmp .le 5, 3) := by decide +kernel
theorem dX6_cut_12 : decode cX6_cut 12 = .ok (.iconst 0, 1) := by decide +kernel
theorem dX6_cut_13 : decode cX6_cut 13 = .ok (.ireturn, 1) := by decide +kernel
theorem dX6_cut_14 : decode cX6_cut 14 = .ok (.aload_n 0, 1) := by decide +kernel
theorem dX6_cut_15 : decode cX6_cut 15 = .ok (.iload_n 1, 1) := by decide +kernel
theorem dX6_cut_16 : decode cX6_cut 16 = .ok (.putfield 15, 3) := by decide +kernel
theorem dX6_cut_19 : decode cX6_cut 19 = .ok (.iconst 1, 1) := by decide +kernel
theorem dX6_cut_20 : decode cX6_cut 20 = .ok (.ireturn, 1) := by decide +kernel
theorem dX6_empty_0 : decode cX6_empty 0 = .ok (.aload_n 0, 1) := by decide +kernel
theorem dX6_empty_1 : decode cX6_empty 1 = .ok (.iconst 0, 1) := by decide +kernel
theorem dX6_empty_2 : decode cX6_empty 2 = .ok (.putfield 15, 3) := by decide +kernel
theorem dX6_empty_5 : decode cX6_empty 5 = .ok (.return_, 1) := by decide +kernel
theorem dX6_init_0 : decode cX6_init 0 = .ok (.aload_n 0, 1) := by decide +kernel
theorem dX6_init_1 : decode cX6_init 1 = .ok (.invokespecial 3, 3) := by decide +kernel
theorem dX6_init_4 : decode cX6_init 4 = .ok (.aload_n 0, 1) := by decide +kernel
theorem dX6_init_5 : decode cX6_init 5 = .ok (.bipush 80, 2) := by decide +kernel
theorem dX6_init_7 : decode cX6_init 7 = .ok (.newarray .int, 2) := by decide +kernel
theorem dX6_init_9 : decode cX6_init 9 = .ok (.putfield 11, 3) := by decide +kernel
theorem dX6_init_12 : decode cX6_init 12 = .ok (.return_, 1) := by decide +kernel
theorem dX7_able_0 : decode cX7_able 0 = .ok (.iload_n 1, 1) := by decide +kernel
theorem dX7_able_1 : decode cX7_able 1 = .ok (.invokestatic 134, 3) := by decide +kernel
theorem dX7_able_4 : decode cX7_able 4 = .ok (.ifCond .ne 5, 3) := by decide +kernel
theorem dX7_able_7 : decode cX7_able 7 = .ok (.iconst (-1), 1) := by decide +kernel
theorem dX7_able_8 : decode cX7_able 8 = .ok (.ireturn, 1) := by decide +kernel
theorem dX7_able_9 : decode cX7_able 9 = .ok (.aload_n 0, 1) := by decide +kernel
theorem dX7_able_10 : decode cX7_able 10 = .ok (.getfield 61, 3) := by decide +kernel
theorem dX7_able_13 : decode cX7_able 13 = .ok (.invokevirtual 316, 3) := by decide +kernel
theorem dX7_able_16 : decode cX7_able 16 = .ok (.iconst 0, 1) := by decide +kernel
theorem dX7_able_17 : decode cX7_able 17 = .ok (.istore_n 2, 1) := by decide +kernel
theorem dX7_able_18 : decode cX7_able 18 = .ok (.iconst 0, 1) := by decide +kernel
theorem dX7_able_19 : decode cX7_able 19 = .ok (.istore_n 3, 1) := by decide +kernel
theorem dX7_able_20 : decode cX7_able 20 = .ok (.iload_n 3, 1) := by decide +kernel
theorem dX7_able_21 : decode cX7_able 21 = .ok (.aload_n 0, 1) := by decide +kernel
theorem dX7_able_22 : decode cX7_able 22 = .ok (.getfield 19, 3) := by decide +kernel
theorem dX7_able_25 : decode cX7_able 25 = .ok (.getfield 154, 3) := by decide +kernel
theorem dX7_able_28 : decode cX7_able 28 = .ok (.if_icmp .ge 43, 3) := by decide +kernel
theorem dX7_able_31 : decode cX7_able 31 = .ok (.aload_n 0, 1) := by decide +kernel
theorem dX7_able_32 : decode cX7_able 32 = .ok (.iload_n 1, 1) := by decide +kernel
theorem dX7_able_33 : decode cX7_able 33 = .ok (.iload_n 2, 1) := by decide +kernel
theorem dX7_able_34 : decode cX7_able 34 = .ok (.invokevirtual 317, 3) := by decide +kernel
theorem dX7_able_37 : decode cX7_able 37 = .ok (.istore 4, 2) := by decide +kernel
theorem dX7_able_39 : decode cX7_able 39 = .ok (.iload 4, 2) := by decide +kernel
theorem dX7_able_41 : decode cX7_able 41 = .ok (.iconst (-1), 1) := by decide +kernel
theorem dX7_able_42 : decode cX7_able 42 = .ok (.if_icmp .ne 6, 3) := by decide +kernel
theorem dX7_able_45 : decode cX7_able 45 = .ok (.goto 26, 3) := by decide +kernel
theorem dX7_able_48 : decode cX7_able 48 = .ok (.iload_n 2, 1) := by decide +kernel
theorem dX7_able_49 : decode cX7_able 49 = .ok (.iconst 1, 1) := by decide +kernel
theorem dX7_able_50 : decode cX7_able 50 = .ok (.iload 4, 2) := by decide +kernel
theorem dX7_able_52 : decode cX7_able 52 = .ok (.ishl, 1) := by decide +kernel
theorem dX7_able_53 : decode cX7_able 53 = .ok (.ior, 1) := by decide +kernel
theorem dX7_able_54 : decode cX7_able 54 = .ok (.istore_n 2, 1) := by decide +kernel
theorem dX7_able_55 : decode cX7_able 55 = .ok (.aload_n 0, 1) := by decide +kernel
theorem dX7_able_56 : decode cX7_able 56 = .ok (.getfield 61, 3) := by decide +kernel
theorem dX7_able_59 : decode cX7_able 59 = .ok (.iload 4, 2) := by decide +kernel
theorem dX7_able_61 : decode cX7_able 61 = .ok (.i2l, 1) := by decide +kernel
theorem dX7_able_62 : decode cX7_able 62 = .ok (.invokevirtual 256, 3) := by decide +kernel
theorem dX7_able_65 : decode cX7_able 65 = .ok (.iinc 3 1, 3) := by decide +kernel
theorem dX7_able_68 : decode cX7_able 68 = .ok (.goto (-48), 3) := by decide +kernel
theorem dX7_able_71 : decode cX7_able 71 = .ok (.iload_n 2, 1) := by decide +kernel
theorem dX7_able_72 : decode cX7_able 72 = .ok (.invokestatic 193, 3) := by decide +kernel
theorem dX7_able_75 : decode cX7_able 75 = .ok (.ireturn, 1) := by decide +kernel
theorem dX7_act_0 : decode cX7_act 0 = .ok (.iload_n 2, 1) := by decide +kernel
theorem dX7_act_1 : decode cX7_act 1 = .ok (.bipush 48, 2) := by decide +kernel
theorem dX7_act_3 : decode cX7_act 3 = .ok (.isub, 1) := by decide +kernel
theorem dX7_act_4 : decode cX7_act 4 = .ok (.istore 4, 2) := by decide +kernel
theorem dX7_act_6 : decode cX7_act 6 = .ok (.iload_n 3, 1) := by decide +kernel
theorem dX7_act_7 : decode cX7_act 7 = .ok (.bipush 45, 2) := by decide +kernel
theorem dX7_act_9 : decode cX7_act 9 = .ok (.if_icmp .ne 7, 3) := by decide +kernel
theorem dX7_act_12 : decode cX7_act 12 = .ok (.iconst (-1), 1) := by decide +kernel
theorem dX7_act_13 : decode cX7_act 13 = .ok (.goto 7, 3) := by decide +kernel
theorem dX7_act_16 : decode cX7_act 16 = .ok (.iload_n 3, 1) := by decide +kernel
theorem dX7_act_17 : decode cX7_act 17 = .ok (.bipush 48, 2) := by decide +kernel
theorem dX7_act_19 : decode cX7_act 19 = .ok (.isub, 1) := by decide +kernel
theorem dX7_act_20 : decode cX7_act 20 = .ok (.istore 5, 2) := by decide +kernel
theorem dX7_act_22 : decode cX7_act 22 = .ok (.iload_n 1, 1) := by decide +kernel
theorem dX7_act_23 : decode cX7_act 23 = .ok (.lookupswitch 64 #[(103, 55), (105, 48), (110, 33)], 33) := by decide +kernel
theorem dX7_act_56 : decode cX7_act 56 = .ok (.aload_n 0, 1) := by decide +kernel
theorem dX7_act_57 : decode cX7_act 57 = .ok (.getfield 19, 3) := by decide +kernel
theorem dX7_act_60 : decode cX7_act 60 = .ok (.aload_n 0, 1) := by decide +kernel
theorem dX7_act_61 : decode cX7_act 61 = .ok (.getfield 26, 3) := by decide +kernel
theorem dX7_act_64 : decode cX7_act 64 = .ok (.iload 4, 2) := by decide +kernel
theorem dX7_act_66 : decode cX7_act 66 = .ok (.invokevirtual 204, 3) := by decide +kernel
theorem dX7_act_69 : decode cX7_act 69 = .ok (.iconst 1, 1) := by decide +kernel
theorem dX7_act_70 : decode cX7_act 70 = .ok (.ireturn, 1) := by decide +kernel
theorem dX7_act_71 : decode cX7_act 71 = .ok (.aload_n 0, 1) := by decide +kernel
theorem dX7_act_72 : decode cX7_act 72 = .ok (.iload 4, 2) := by decide +kernel
theorem dX7_act_74 : decode cX7_act 74 = .ok (.invokevirtual 417, 3) := by decide +kernel
theorem dX7_act_77 : decode cX7_act 77 = .ok (.ireturn, 1) := by decide +kernel
theorem dX7_act_78 : decode cX7_act 78 = .ok (.aload_n 0, 1) := by decide +kernel
theorem dX7_act_79 : decode cX7_act 79 = .ok (.iload 4, 2) := by decide +kernel
theorem dX7_act_81 : decode cX7_act 81 = .ok (.iload 5, 2) := by decide +kernel
theorem dX7_act_83 : decode cX7_act 83 = .ok (.invokevirtual 420, 3) := by decide +kernel
theorem dX7_act_86 : decode cX7_act 86 = .ok (.ireturn, 1) := by decide +kernel
theorem dX7_act_87 : decode cX7_act 87 = .ok (.aload_n 0, 1) := by decide +kernel
theorem dX7_act_88 : decode cX7_act 88 = .ok (.iload 4, 2) := by decide +kernel
theorem dX7_act_90 : decode cX7_act 90 = .ok (.iload 5, 2) := by decide +kernel
theorem dX7_act_92 : decode cX7_act 92 = .ok (.invokevirtual 423, 3) := by decide +kernel
theorem dX7_act_95 : decode cX7_act 95 = .ok (.ireturn, 1) := by decide +kernel
theorem dX7_actExchange_0 : decode cX7_actExchange 0 = .ok (.aload_n 0, 1) := by decide +kernel
theorem dX7_actExchange_1 : decode cX7_actExchange 1 = .ok (.getfield 19, 3) := by decide +kernel
theorem dX7_actExchange_4 : decode cX7_actExchange 4 = .ok (.iload_n 1, 1) := by decide +kernel
theorem dX7_actExchange_5 : decode cX7_actExchange 5 = .ok (.iload_n 2, 1) := by decide +kernel
theorem dX7_actExchange_6 : decode cX7_actExchange 6 = .ok (.invokevirtual 328, 3) := by decide +kernel
theorem dX7_actExchange_9 : decode cX7_actExchange 9 = .ok (.ifCond .ne 5, 3) := by decide +kernel
theorem dX7_actExchange_12 : decode cX7_actExchange 12 = .ok (.iconst 0, 1) := by decide +kernel
theorem dX7_actExchange_13 : decode cX7_actExchange 13 = .ok (.ireturn, 1) := by decide +kernel
theorem dX7_actExchange_14 : decode cX7_actExchange 14 = .ok (.iconst 0, 1) := by decide +kernel
theorem dX7_actExchange_15 : decode cX7_actExchange 15 = .ok (.istore_n 3, 1) := by decide +kernel
theorem dX7_actExchange_16 : decode cX7_actExchange 16 = .ok (.iload_n 3, 1) := by decide +kernel
theorem dX7_actExchange_17 : decode cX7_actExchange 17 = .ok (.bipush 8, 2) := by decide +kernel
theorem dX7_actExchange_19 : decode cX7_actExchange 19 = .ok (.if_icmp .ge 58, 3) := by decide +kernel
theorem dX7_actExchange_22 : decode cX7_actExchange 22 = .ok (.aload_n 0, 1) := by decide +kernel
theorem dX7_actExchange_23 : decode cX7_actExchange 23 = .ok (.getfield 26, 3) := by decide +kernel
theorem dX7_actExchange_26 : decode cX7_actExchange 26 = .ok (.getfield 183, 3) := by decide +kernel
theorem dX7_actExchange_29 : decode cX7_actExchange 29 = .ok (.iload_n 3, 1) := by decide +kernel
theorem dX7_actExchange_30 : decode cX7_actExchange 30 = .ok (.iaload, 1) := by decide +kernel
theorem dX7_actExchange_31 : decode cX7_actExchange 31 = .ok (.iload_n 1, 1) := by decide +kernel
theorem dX7_actExchange_32 : decode cX7_actExchange 32 = .ok (.if_icmp .ne 16, 3) := by decide +kernel
theorem dX7_actExchange_35 : decode cX7_actExchange 35 = .ok (.aload_n 0, 1) := by decide +kernel
theorem dX7_actExchange_36 : decode cX7_actExchange 36 = .ok (.getfield 26, 3) := by decide +kernel
theorem dX7_actExchange_39 : decode cX7_actExchange 39 = .ok (.getfield 183, 3) := by decide +kernel
theorem dX7_actExchange_42 : decode cX7_actExchange 42 = .ok (.iload_n 3, 1) := by decide +kernel
theorem dX7_actExchange_43 : decode cX7_actExchange 43 = .ok (.iload_n 2, 1) := by decide +kernel
theorem dX7_actExchange_44 : decode cX7_actExchange 44 = .ok (.iastore, 1) := by decide +kernel
theorem dX7_actExchange_45 : decode cX7_actExchange 45 = .ok (.goto 26, 3) := by decide +kernel
theorem dX7_actExchange_48 : decode cX7_actExchange 48 = .ok (.aload_n 0, 1) := by decide +kernel
theorem dX7_actExchange_49 : decode cX7_actExchange 49 = .ok (.getfield 26, 3) := by decide +kernel
theorem dX7_actExchange_52 : decode cX7_actExchange 52 = .ok (.getfield 183, 3) := by decide +kernel
theorem dX7_actExchange_55 : decode cX7_actExchange 55 = .ok (.iload_n 3, 1) := by decide +kernel
theorem dX7_actExchange_56 : decode cX7_actExchange 56 = .ok (.iaload, 1) := by decide +kernel
theorem dX7_actExchange_57 : decode cX7_actExchange 57 = .ok (.iload_n 2, 1) := by decide +kernel
theorem dX7_actExchange_58 : decode cX7_actExchange 58 = .ok (.if_icmp .ne 13, 3) := by decide +kernel
theorem dX7_actExchange_61 : decode cX7_actExchange 61 = .ok (.aload_n 0, 1) := by decide +kernel
theorem dX7_actExchange_62 : decode cX7_actExchange 62 = .ok (.getfield 26, 3) := by decide +kernel
theorem dX7_actExchange_65 : decode cX7_actExchange 65 = .ok (.getfield 183, 3) := by decide +kernel
theorem dX7_actExchange_68 : decode cX7_actExchange 68 = .ok (.iload_n 3, 1) := by decide +kernel
theorem dX7_actExchange_69 : decode cX7_actExchange 69 = .ok (.iload_n 1, 1) := by decide +kernel
theorem dX7_actExchange_70 : decode cX7_actExchange 70 = .ok (.iastore, 1) := by decide +kernel
theorem dX7_actExchange_71 : decode cX7_actExchange 71 = .ok (.iinc 3 1, 3) := by decide +kernel
theorem dX7_actExchange_74 : decode cX7_actExchange 74 = .ok (.goto (-58), 3) := by decide +kernel
theorem dX7_actExchange_77 : decode cX7_actExchange 77 = .ok (.iconst 1, 1) := by decide +kernel
theorem dX7_actExchange_78 : decode cX7_actExchange 78 = .ok (.ireturn, 1) := by decide +kernel
theorem dX7_actGive_0 : decode cX7_actGive 0 = .ok (.iload_n 1, 1) := by decide +kernel
theorem dX7_actGive_1 : decode cX7_actGive 1 = .ok (.invokestatic 134, 3) := by decide +kernel
theorem dX7_actGive_4 : decode cX7_actGive 4 = .ok (.ifCond .eq 14, 3) := by decide +kernel
theorem dX7_actGive_7 : decode cX7_actGive 7 = .ok (.aload_n 0, 1) := by decide +kernel
theorem dX7_actGive_8 : decode cX7_actGive 8 = .ok (.getfield 19, 3) := by decide +kernel
theorem dX7_actGive_11 : decode cX7_actGive 11 = .ok (.iload_n 2, 1) := by decide +kernel
theorem dX7_actGive_12 : decode cX7_actGive 12 = .ok (.invokevirtual 180, 3) := by decide +kernel
theorem dX7_actGive_15 : decode cX7_actGive 15 = .ok (.ifCond .ne 5, 3) := by decide +kernel
theorem dX7_actGive_18 : decode cX7_actGive 18 = .ok (.iconst 0, 1) := by decide +kernel
theorem dX7_actGive_19 : decode cX7_actGive 19 = .ok (.ireturn, 1) := by decide +kernel
theorem dX7_actGive_20 : decode cX7_actGive 20 = .ok (.aload_n 0, 1) := by decide +kernel
theorem dX7_actGive_21 : decode cX7_actGive 21 = .ok (.getfield 26, 3) := by decide +kernel
theorem dX7_actGive_24 : decode cX7_actGive 24 = .ok (.getfield 183, 3) := by decide +kernel
theorem dX7_actGive_27 : decode cX7_actGive 27 = .ok (.iload_n 1, 1) := by decide +kernel
theorem dX7_actGive_28 : decode cX7_actGive 28 = .ok (.iload_n 2, 1) := by decide +kernel
theorem dX7_actGive_29 : decode cX7_actGive 29 = .ok (.iastore, 1) := by decide +kernel
theorem dX7_actGive_30 : decode cX7_actGive 30 = .ok (.iconst 1, 1) := by decide +kernel
theorem dX7_actGive_31 : decode cX7_actGive 31 = .ok (.ireturn, 1) := by decide +kernel
theorem dX7_actIll_0 : decode cX7_actIll 0 = .ok (.aload_n 0, 1) := by decide +kernel
theorem dX7_actIll_1 : decode cX7_actIll 1 = .ok (.getfield 19, 3) := by decide +kernel
theorem dX7_actIll_4 : decode cX7_actIll 4 = .ok (.iload_n 1, 1) := by decide +kernel
theorem dX7_actIll_5 : decode cX7_actIll 5 = .ok (.invokevirtual 110, 3) := by decide +kernel
theorem dX7_actIll_8 : decode cX7_actIll 8 = .ok (.ifCond .ne 5, 3) := by decide +kernel
theorem dX7_actIll_11 : decode cX7_actIll 11 = .ok (.iconst 0, 1) := by decide +kernel
theorem dX7_actIll_12 : decode cX7_actIll 12 = .ok (.ireturn, 1) := by decide +kernel
theorem dX7_actIll_13 : decode cX7_actIll 13 = .ok (.aload_n 0, 1) := by decide +kernel
theorem dX7_actIll_14 : decode cX7_actIll 14 = .ok (.getfield 26, 3) := by decide +kernel
theorem dX7_actIll_17 : decode cX7_actIll 17 = .ok (.iload_n 1, 1) := by decide +kernel
theorem dX7_actIll_18 : decode cX7_actIll 18 = .ok (.invokevirtual 186, 3) := by decide +kernel
theorem dX7_actIll_21 : decode cX7_actIll 21 = .ok (.iconst 1, 1) := by decide +kernel
theorem dX7_actIll_22 : decode cX7_actIll 22 = .ok (.ireturn, 1) := by decide +kernel
theorem dX7_actSigns_0 : decode cX7_actSigns 0 = .ok (.iload_n 0, 1) := by decide +kernel
theorem dX7_actSigns_1 : decode cX7_actSigns 1 = .ok (.lookupswitch 47 #[(103, 45), (105, 43), (110, 43), (120, 45)], 43) := by decide +kernel
theorem dX7_actSigns_44 : decode cX7_actSigns 44 = .ok (.iconst 2, 1) := by decide +kernel
theorem dX7_actSigns_45 : decode cX7_actSigns 45 = .ok (.ireturn, 1) := by decide +kernel
theorem dX7_actSigns_46 : decode cX7_actSigns 46 = .ok (.iconst 3, 1) := by decide +kernel
theorem dX7_actSigns_47 : decode cX7_actSigns 47 = .ok (.ireturn, 1) := by decide +kernel
theorem dX7_actSigns_48 : decode cX7_actSigns 48 = .ok (.iconst 1, 1) := by decide +kernel
theorem dX7_actSigns_49 : decode cX7_actSigns 49 = .ok (.ireturn, 1) := by decide +kernel
theorem dX7_again_0 : decode cX7_again 0 = .ok (.iload_n 1, 1) := by decide +kernel
theorem dX7_again_1 : decode cX7_again 1 = .ok (.ifCond .lt 17, 3) := by decide +kernel
theorem dX7_again_4 : decode cX7_again 4 = .ok (.iload_n 1, 1) := by decide +kernel
theorem dX7_again_5 : decode cX7_again 5 = .ok (.iconst 2, 1) := by decide +kernel
theorem dX7_again_6 : decode cX7_again 6 = .ok (.if_icmp .ge 12, 3) := by decide +kernel
theorem dX7_again_9 : decode cX7_again 9 = .ok (.aload_n 0, 1) := by decide +kernel
theorem dX7_again_10 : decode cX7_again 10 = .ok (.getfield 47, 3) := by decide +kernel
theorem dX7_again_13 : decode cX7_again 13 = .ok (.iload_n 1, 1) := by decide +kernel
theorem dX7_again_14 : decode cX7_again 14 = .ok (.baload, 1) := by decide +kernel
theorem dX7_again_15 : decode cX7_again 15 = .ok (.ifCond .ne 5, 3) := by decide +kernel
theorem dX7_again_18 : decode cX7_again 18 = .ok (.iconst 0, 1) := by decide +kernel
theorem dX7_again_19 : decode cX7_again 19 = .ok (.ireturn, 1) := by decide +kernel
theorem dX7_again_20 : decode cX7_again 20 = .ok (.aload_n 0, 1) := by decide +kernel
theorem dX7_again_21 : decode cX7_again 21 = .ok (.getfield 26, 3) := by decide +kernel
theorem dX7_again_24 : decode cX7_again 24 = .ok (.aload_n 0, 1) := by decide +kernel
theorem dX7_again_25 : decode cX7_again 25 = .ok (.getfield 43, 3) := by decide +kernel
theorem dX7_again_28 : decode cX7_again 28 = .ok (.iload_n 1, 1) := by decide +kernel
theorem dX7_again_29 : decode cX7_again 29 = .ok (.aaload, 1) := by decide +kernel
theorem dX7_again_30 : decode cX7_again 30 = .ok (.invokevirtual 170, 3) := by decide +kernel
theorem dX7_again_33 : decode cX7_again 33 = .ok (.aload_n 0, 1) := by decide +kernel
theorem dX7_again_34 : decode cX7_again 34 = .ok (.getfield 39, 3) := by decide +kernel
theorem dX7_again_37 : decode cX7_again 37 = .ok (.invokevirtual 97, 3) := by decide +kernel
theorem dX7_again_40 : decode cX7_again 40 = .ok (.iconst 1, 1) := by decide +kernel
theorem dX7_again_41 : decode cX7_again 41 = .ok (.ireturn, 1) := by decide +kernel
theorem dX7_ask_0 : decode cX7_ask 0 = .ok (.aload_n 0, 1) := by decide +kernel
theorem dX7_ask_1 : decode cX7_ask 1 = .ok (.invokevirtual 348, 3) := by decide +kernel
theorem dX7_ask_4 : decode cX7_ask 4 = .ok (.aload_n 0, 1) := by decide +kernel
theorem dX7_ask_5 : decode cX7_ask 5 = .ok (.getfield 54, 3) := by decide +kernel
theorem dX7_ask_8 : decode cX7_ask 8 = .ok (.invokevirtual 351, 3) := by decide +kernel
theorem dX7_ask_11 : decode cX7_ask 11 = .ok (.ifCond .ne 6, 3) := by decide +kernel
theorem dX7_ask_14 : decode cX7_ask 14 = .ok (.bipush (-2), 2) := by decide +kernel
theorem dX7_ask_16 : decode cX7_ask 16 = .ok (.ireturn, 1) := by decide +kernel
theorem dX7_ask_17 : decode cX7_ask 17 = .ok (.aload_n 0, 1) := by decide +kernel
theorem dX7_ask_18 : decode cX7_ask 18 = .ok (.getfield 54, 3) := by decide +kernel
theorem dX7_ask_21 : decode cX7_ask 21 = .ok (.invokevirtual 361, 3) := by decide +kernel
theorem dX7_ask_24 : decode cX7_ask 24 = .ok (.aload_n 0, 1) := by decide +kernel
theorem dX7_ask_25 : decode cX7_ask 25 = .ok (.getfield 54, 3) := by decide +kernel
theorem dX7_ask_28 : decode cX7_ask 28 = .ok (.iconst 0, 1) := by decide +kernel
theorem dX7_ask_29 : decode cX7_ask 29 = .ok (.invokevirtual 364, 3) := by decide +kernel
theorem dX7_ask_32 : decode cX7_ask 32 = .ok (.istore_n 1, 1) := by decide +kernel
theorem dX7_ask_33 : decode cX7_ask 33 = .ok (.iconst 0, 1) := by decide +kernel
theorem dX7_ask_34 : decode cX7_ask 34 = .ok (.istore_n 2, 1) := by decide +kernel
theorem dX7_ask_35 : decode cX7_ask 35 = .ok (.iconst 1, 1) := by decide +kernel
theorem dX7_ask_36 : decode cX7_ask 36 = .ok (.istore_n 3, 1) := by decide +kernel
theorem dX7_ask_37 : decode cX7_ask 37 = .ok (.iload_n 3, 1) := by decide +kernel
theorem dX7_ask_38 : decode cX7_ask 38 = .ok (.aload_n 0, 1) := by decide +kernel
theorem dX7_ask_39 : decode cX7_ask 39 = .ok (.getfield 19, 3) := by decide +kernel
theorem dX7_ask_42 : decode cX7_ask 42 = .ok (.getfield 141, 3) := by decide +kernel
theorem dX7_ask_45 : decode cX7_ask 45 = .ok (.if_icmp .ge 30, 3) := by decide +kernel
theorem dX7_ask_48 : decode cX7_ask 48 = .ok (.aload_n 0, 1) := by decide +kernel
theorem dX7_ask_49 : decode cX7_ask 49 = .ok (.getfield 54, 3) := by decide +kernel
theorem dX7_ask_52 : decode cX7_ask 52 = .ok (.iload_n 3, 1) := by decide +kernel
theorem dX7_ask_53 : decode cX7_ask 53 = .ok (.invokevirtual 364, 3) := by decide +kernel
theorem dX7_ask_56 : decode cX7_ask 56 = .ok (.istore 4, 2) := by decide +kernel
theorem dX7_ask_58 : decode cX7_ask 58 = .ok (.iload 4, 2) := by decide +kernel
theorem dX7_ask_60 : decode cX7_ask 60 = .ok (.iload_n 1, 1) := by decide +kernel
theorem dX7_ask_61 : decode cX7_ask 61 = .ok (.if_icmp .ge 8, 3) := by decide +kernel
theorem dX7_ask_64 : decode cX7_ask 64 = .ok (.iload 4, 2) := by decide +kernel
theorem dX7_ask_66 : decode cX7_ask 66 = .ok (.istore_n 1, 1) := by decide +kernel
theorem dX7_ask_67 : decode cX7_ask 67 = .ok (.iload_n 3, 1) := by decide +kernel
theorem dX7_ask_68 : decode cX7_ask 68 = .ok (.istore_n 2, 1) := by decide +kernel
theorem dX7_ask_69 : decode cX7_ask 69 = .ok (.iinc 3 1, 3) := by decide +kernel
theorem dX7_ask_72 : decode cX7_ask 72 = .ok (.goto (-35), 3) := by decide +kernel
theorem dX7_ask_75 : decode cX7_ask 75 = .ok (.aload_n 0, 1) := by decide +kernel
theorem dX7_ask_76 : decode cX7_ask 76 = .ok (.getfield 61, 3) := by decide +kernel
theorem dX7_ask_79 : decode cX7_ask 79 = .ok (.iload_n 1, 1) := by decide +kernel
theorem dX7_ask_80 : decode cX7_ask 80 = .ok (.i2l, 1) := by decide +kernel
theorem dX7_ask_81 : decode cX7_ask 81 = .ok (.invokevirtual 247, 3) := by decide +kernel
theorem dX7_ask_84 : decode cX7_ask 84 = .ok (.iload_n 2, 1) := by decide +kernel
theorem dX7_ask_85 : decode cX7_ask 85 = .ok (.ireturn, 1) := by decide +kernel
theorem dX7_away_0 : decode cX7_away 0 = .ok (.aload_n 0, 1) := by decide +kernel
theorem dX7_away_1 : decode cX7_away 1 = .ok (.iconst (-1), 1) := by decide +kernel
theorem dX7_away_2 : decode cX7_away 2 = .ok (.invokevirtual 268, 3) := by decide +kernel
theorem dX7_away_5 : decode cX7_away 5 = .ok (.iconst 0, 1) := by decide +kernel
theorem dX7_away_6 : decode cX7_away 6 = .ok (.istore_n 1, 1) := by decide +kernel
theorem dX7_away_7 : decode cX7_away 7 = .ok (.iload_n 1, 1) := by decide +kernel
theorem dX7_away_8 : decode cX7_away 8 = .ok (.aload_n 0, 1) := by decide +kernel
theorem dX7_away_9 : decode cX7_away 9 = .ok (.getfield 19, 3) := by decide +kernel
theorem dX7_away_12 : decode cX7_away 12 = .ok (.getfield 154, 3) := by decide +kernel
theorem dX7_away_15 : decode cX7_away 15 = .ok (.if_icmp .ge 26, 3) := by decide +kernel
theorem dX7_away_18 : decode cX7_away 18 = .ok (.aload_n 0, 1) := by decide +kernel
theorem dX7_away_19 : decode cX7_away 19 = .ok (.getfield 54, 3) := by decide +kernel
theorem dX7_away_22 : decode cX7_away 22 = .ok (.getfield 271, 3) := by decide +kernel
theorem dX7_away_25 : decode cX7_away 25 = .ok (.iload_n 1, 1) := by decide +kernel
theorem dX7_away_26 : decode cX7_away 26 = .ok (.sipush 512, 3) := by decide +kernel
theorem dX7_away_29 : decode cX7_away 29 = .ok (.iconst 1, 1) := by decide +kernel
theorem dX7_away_30 : decode cX7_away 30 = .ok (.iload_n 1, 1) := by decide +kernel
theorem dX7_away_31 : decode cX7_away 31 = .ok (.ishl, 1) := by decide +kernel
theorem dX7_away_32 : decode cX7_away 32 = .ok (.isub, 1) := by decide +kernel
theorem dX7_away_33 : decode cX7_away 33 = .ok (.i2l, 1) := by decide +kernel
theorem dX7_away_34 : decode cX7_away 34 = .ok (.lastore, 1) := by decide +kernel
theorem dX7_away_35 : decode cX7_away 35 = .ok (.iinc 1 1, 3) := by decide +kernel
theorem dX7_away_38 : decode cX7_away 38 = .ok (.goto (-31), 3) := by decide +kernel
theorem dX7_away_41 : decode cX7_away 41 = .ok (.aload_n 0, 1) := by decide +kernel
theorem dX7_away_42 : decode cX7_away 42 = .ok (.getfield 54, 3) := by decide +kernel
theorem dX7_away_45 : decode cX7_away 45 = .ok (.invokevirtual 275, 3) := by decide +kernel
theorem dX7_away_48 : decode cX7_away 48 = .ok (.lstore_n 1, 1) := by decide +kernel
theorem dX7_away_49 : decode cX7_away 49 = .ok (.lload_n 1, 1) := by decide +kernel
theorem dX7_away_50 : decode cX7_away 50 = .ok (.ldc2_w 262, 3) := by decide +kernel
theorem dX7_away_53 : decode cX7_away 53 = .ok (.lcmp, 1) := by decide +kernel
theorem dX7_away_54 : decode cX7_away 54 = .ok (.ifCond .lt 6, 3) := by decide +kernel
theorem dX7_away_57 : decode cX7_away 57 = .ok (.bipush (-2), 2) := by decide +kernel
theorem dX7_away_59 : decode cX7_away 59 = .ok (.ireturn, 1) := by decide +kernel
theorem dX7_away_60 : decode cX7_away 60 = .ok (.lload_n 1, 1) := by decide +kernel
theorem dX7_away_61 : decode cX7_away 61 = .ok (.lneg, 1) := by decide +kernel
theorem dX7_away_62 : decode cX7_away 62 = .ok (.ldc2_w 311, 3) := by decide +kernel
theorem dX7_away_65 : decode cX7_away 65 = .ok (.land, 1) := by decide +kernel
theorem dX7_away_66 : decode cX7_away 66 = .ok (.l2i, 1) := by decide +kernel
theorem dX7_away_67 : decode cX7_away 67 = .ok (.istore_n 3, 1) := by decide +kernel
theorem dX7_away_68 : decode cX7_away 68 = .ok (.aload_n 0, 1) := by decide +kernel
theorem dX7_away_69 : decode cX7_away 69 = .ok (.invokevirtual 313, 3) := by decide +kernel
theorem dX7_away_72 : decode cX7_away 72 = .ok (.iload_n 3, 1) := by decide +kernel
theorem dX7_away_73 : decode cX7_away 73 = .ok (.iconst (-1), 1) := by decide +kernel
theorem dX7_away_74 : decode cX7_away 74 = .ok (.ixor, 1) := by decide +kernel
theorem dX7_away_75 : decode cX7_away 75 = .ok (.iand, 1) := by decide +kernel
theorem dX7_away_76 : decode cX7_away 76 = .ok (.istore 4, 2) := by decide +kernel
theorem dX7_away_78 : decode cX7_away 78 = .ok (.aload_n 0, 1) := by decide +kernel
theorem dX7_away_79 : decode cX7_away 79 = .ok (.getfield 61, 3) := by decide +kernel
theorem dX7_away_82 : decode cX7_away 82 = .ok (.iload 4, 2) := by decide +kernel
theorem dX7_away_84 : decode cX7_away 84 = .ok (.i2l, 1) := by decide +kernel
theorem dX7_away_85 : decode cX7_away 85 = .ok (.invokevirtual 247, 3) := by decide +kernel
theorem dX7_away_88 : decode cX7_away 88 = .ok (.iload 4, 2) := by decide +kernel
theorem dX7_away_90 : decode cX7_away 90 = .ok (.invokestatic 193, 3) := by decide +kernel
theorem dX7_away_93 : decode cX7_away 93 = .ok (.ireturn, 1) := by decide +kernel
theorem dX7_bare_0 : decode cX7_bare 0 = .ok (.aload_n 0, 1) := by decide +kernel
theorem dX7_bare_1 : decode cX7_bare 1 = .ok (.iconst (-1), 1) := by decide +kernel
theorem dX7_bare_2 : decode cX7_bare 2 = .ok (.invokevirtual 268, 3) := by decide +kernel
theorem dX7_bare_5 : decode cX7_bare 5 = .ok (.aload_n 0, 1) := by decide +kernel
theorem dX7_bare_6 : decode cX7_bare 6 = .ok (.getfield 54, 3) := by decide +kernel
theorem dX7_bare_9 : decode cX7_bare 9 = .ok (.invokevirtual 275, 3) := by decide +kernel
theorem dX7_bare_12 : decode cX7_bare 12 = .ok (.pop2, 1) := by decide +kernel
theorem dX7_bare_13 : decode cX7_bare 13 = .ok (.bipush 9, 2) := by decide +kernel
theorem dX7_bare_15 : decode cX7_bare 15 = .ok (.istore_n 1, 1) := by decide +kernel
theorem dX7_bare_16 : decode cX7_bare 16 = .ok (.iconst 0, 1) := by decide +kernel
theorem dX7_bare_17 : decode cX7_bare 17 = .ok (.istore_n 2, 1) := by decide +kernel
theorem dX7_bare_18 : decode cX7_bare 18 = .ok (.iconst 1, 1) := by decide +kernel
theorem dX7_bare_19 : decode cX7_bare 19 = .ok (.istore_n 3, 1) := by decide +kernel
theorem dX7_bare_20 : decode cX7_bare 20 = .ok (.iload_n 3, 1) := by decide +kernel
theorem dX7_bare_21 : decode cX7_bare 21 = .ok (.aload_n 0, 1) := by decide +kernel
theorem dX7_bare_22 : decode cX7_bare 22 = .ok (.getfield 54, 3) := by decide +kernel
theorem dX7_bare_25 : decode cX7_bare 25 = .ok (.getfield 281, 3) := by decide +kernel
theorem dX7_bare_28 : decode cX7_bare 28 = .ok (.if_icmp .gt 35, 3) := by decide +kernel
theorem dX7_bare_31 : decode cX7_bare 31 = .ok (.aload_n 0, 1) := by decide +kernel
theorem dX7_bare_32 : decode cX7_bare 32 = .ok (.getfield 54, 3) := by decide +kernel
theorem dX7_bare_35 : decode cX7_bare 35 = .ok (.iload_n 3, 1) := by decide +kernel
theorem dX7_bare_36 : decode cX7_bare 36 = .ok (.invokevirtual 284, 3) := by decide +kernel
theorem dX7_bare_39 : decode cX7_bare 39 = .ok (.ifCond .ne 18, 3) := by decide +kernel
theorem dX7_bare_42 : decode cX7_bare 42 = .ok (.iload_n 3, 1) := by decide +kernel
theorem dX7_bare_43 : decode cX7_bare 43 = .ok (.invokestatic 193, 3) := by decide +kernel
theorem dX7_bare_46 : decode cX7_bare 46 = .ok (.iload_n 1, 1) := by decide +kernel
theorem dX7_bare_47 : decode cX7_bare 47 = .ok (.if_icmp .ge 10, 3) := by decide +kernel
theorem dX7_bare_50 : decode cX7_bare 50 = .ok (.iload_n 3, 1) := by decide +kernel
theorem dX7_bare_51 : decode cX7_bare 51 = .ok (.invokestatic 193, 3) := by decide +kernel
theorem dX7_bare_54 : decode cX7_bare 54 = .ok (.istore_n 1, 1) := by decide +kernel
theorem dX7_bare_55 : decode cX7_bare 55 = .ok (.iload_n 3, 1) := by decide +kernel
theorem dX7_bare_56 : decode cX7_bare 56 = .ok (.istore_n 2, 1) := by decide +kernel
theorem dX7_bare_57 : decode cX7_bare 57 = .ok (.iinc 3 1, 3) := by decide +kernel
theorem dX7_bare_60 : decode cX7_bare 60 = .ok (.goto (-40), 3) := by decide +kernel
theorem dX7_bare_63 : decode cX7_bare 63 = .ok (.iload_n 2, 1) := by decide +kernel
theorem dX7_bare_64 : decode cX7_bare 64 = .ok (.ifCond .ne 6, 3) := by decide +kernel
theorem dX7_bare_67 : decode cX7_bare 67 = .ok (.bipush (-2), 2) := by decide +kernel
theorem dX7_bare_69 : decode cX7_bare 69 = .ok (.ireturn, 1) := by decide +kernel
theorem dX7_bare_70 : decode cX7_bare 70 = .ok (.aload_n 0, 1) := by decide +kernel
theorem dX7_bare_71 : decode cX7_bare 71 = .ok (.getfield 61, 3) := by decide +kernel
theorem dX7_bare_74 : decode cX7_bare 74 = .ok (.iload_n 2, 1) := by decide +kernel
theorem dX7_bare_75 : decode cX7_bare 75 = .ok (.i2l, 1) := by decide +kernel
theorem dX7_bare_76 : decode cX7_bare 76 = .ok (.invokevirtual 247, 3) := by decide +kernel
theorem dX7_bare_79 : decode cX7_bare 79 = .ok (.iload_n 1, 1) := by decide +kernel
theorem dX7_bare_80 : decode cX7_bare 80 = .ok (.ireturn, 1) := by decide +kernel
theorem dX7_between_0 : decode cX7_between 0 = .ok (.iload_n 1, 1) := by decide +kernel
theorem dX7_between_1 : decode cX7_between 1 = .ok (.iload_n 2, 1) := by decide +kernel
theorem dX7_between_2 : decode cX7_between 2 = .ok (.iload_n 0, 1) := by decide +kernel
theorem dX7_between_3 : decode cX7_between 3 = .ok (.invokestatic 400, 3) := by decide +kernel
theorem dX7_between_6 : decode cX7_between 6 = .ok (.invokestatic 323, 3) := by decide +kernel
theorem dX7_between_9 : decode cX7_between 9 = .ok (.ireturn, 1) := by decide +kernel
theorem dX7_chance_0 : decode cX7_chance 0 = .ok (.iload_n 1, 1) := by decide +kernel
theorem dX7_chance_1 : decode cX7_chance 1 = .ok (.invokestatic 193, 3) := by decide +kernel
theorem dX7_chance_4 : decode cX7_chance 4 = .ok (.istore_n 3, 1) := by decide +kernel
theorem dX7_chance_5 : decode cX7_chance 5 = .ok (.lconst 0, 1) := by decide +kernel
theorem dX7_chance_6 : decode cX7_chance 6 = .ok (.lstore 4, 2) := by decide +kernel
