theorem dX8_remember_36 : decode cX8_remember 36 = .ok (.goto (-25), 3) := by decide +kernel
theorem dX8_remember_39 : decode cX8_remember 39 = .ok (.aload_n 0, 1) := by decide +kernel
theorem dX8_remember_40 : decode cX8_remember 40 = .ok (.dup, 1) := by decide +kernel
theorem dX8_remember_41 : decode cX8_remember 41 = .ok (.getfield 182, 3) := by decide +kernel
theorem dX8_remember_44 : decode cX8_remember 44 = .ok (.iconst 1, 1) := by decide +kernel
theorem dX8_remember_45 : decode cX8_remember 45 = .ok (.isub, 1) := by decide +kernel
theorem dX8_remember_46 : decode cX8_remember 46 = .ok (.putfield 182, 3) := by decide +kernel
theorem dX8_remember_49 : decode cX8_remember 49 = .ok (.aload_n 1, 1) := by decide +kernel
theorem dX8_remember_50 : decode cX8_remember 50 = .ok (.aload_n 0, 1) := by decide +kernel
theorem dX8_remember_51 : decode cX8_remember 51 = .ok (.getfield 49, 3) := by decide +kernel
theorem dX8_remember_54 : decode cX8_remember 54 = .ok (.bipush 27, 2) := by decide +kernel
theorem dX8_remember_56 : decode cX8_remember 56 = .ok (.aload_n 0, 1) := by decide +kernel
theorem dX8_remember_57 : decode cX8_remember 57 = .ok (.getfield 182, 3) := by decide +kernel
theorem dX8_remember_60 : decode cX8_remember 60 = .ok (.imul, 1) := by decide +kernel
theorem dX8_remember_61 : decode cX8_remember 61 = .ok (.invokestatic 249, 3) := by decide +kernel
theorem dX8_remember_64 : decode cX8_remember 64 = .ok (.aload_n 0, 1) := by decide +kernel
theorem dX8_remember_65 : decode cX8_remember 65 = .ok (.dup, 1) := by decide +kernel
theorem dX8_remember_66 : decode cX8_remember 66 = .ok (.getfield 182, 3) := by decide +kernel
theorem dX8_remember_69 : decode cX8_remember 69 = .ok (.iconst 1, 1) := by decide +kernel
theorem dX8_remember_70 : decode cX8_remember 70 = .ok (.iadd, 1) := by decide +kernel
theorem dX8_remember_71 : decode cX8_remember 71 = .ok (.putfield 182, 3) := by decide +kernel
theorem dX8_remember_74 : decode cX8_remember 74 = .ok (.return_, 1) := by decide +kernel
theorem dX8_rests_0 : decode cX8_rests 0 = .ok (.aload_n 0, 1) := by decide +kernel
theorem dX8_rests_1 : decode cX8_rests 1 = .ok (.iconst 0, 1) := by decide +kernel
theorem dX8_rests_2 : decode cX8_rests 2 = .ok (.putfield 114, 3) := by decide +kernel
theorem dX8_rests_5 : decode cX8_rests 5 = .ok (.iload_n 1, 1) := by decide +kernel
theorem dX8_rests_6 : decode cX8_rests 6 = .ok (.iconst 0, 1) := by decide +kernel
theorem dX8_rests_7 : decode cX8_rests 7 = .ok (.bipush 9, 2) := by decide +kernel
theorem dX8_rests_9 : decode cX8_rests 9 = .ok (.invokestatic 123, 3) := by decide +kernel
theorem dX8_rests_12 : decode cX8_rests 12 = .ok (.ifCond .eq 13, 3) := by decide +kernel
theorem dX8_rests_15 : decode cX8_rests 15 = .ok (.iload_n 2, 1) := by decide +kernel
theorem dX8_rests_16 : decode cX8_rests 16 = .ok (.iconst 0, 1) := by decide +kernel
theorem dX8_rests_17 : decode cX8_rests 17 = .ok (.bipush 9, 2) := by decide +kernel
theorem dX8_rests_19 : decode cX8_rests 19 = .ok (.invokestatic 123, 3) := by decide +kernel
theorem dX8_rests_22 : decode cX8_rests 22 = .ok (.ifCond .ne 5, 3) := by decide +kernel
theorem dX8_rests_25 : decode cX8_rests 25 = .ok (.iconst (-1), 1) := by decide +kernel
theorem dX8_rests_26 : decode cX8_rests 26 = .ok (.ireturn, 1) := by decide +kernel
theorem dX8_rests_27 : decode cX8_rests 27 = .ok (.iconst 0, 1) := by decide +kernel
theorem dX8_rests_28 : decode cX8_rests 28 = .ok (.istore_n 3, 1) := by decide +kernel
theorem dX8_rests_29 : decode cX8_rests 29 = .ok (.iconst 0, 1) := by decide +kernel
theorem dX8_rests_30 : decode cX8_rests 30 = .ok (.istore 4, 2) := by decide +kernel
theorem dX8_rests_32 : decode cX8_rests 32 = .ok (.aload_n 0, 1) := by decide +kernel
theorem dX8_rests_33 : decode cX8_rests 33 = .ok (.iconst 0, 1) := by decide +kernel
theorem dX8_rests_34 : decode cX8_rests 34 = .ok (.putfield 117, 3) := by decide +kernel
theorem dX8_rests_37 : decode cX8_rests 37 = .ok (.iconst 0, 1) := by decide +kernel
theorem dX8_rests_38 : decode cX8_rests 38 = .ok (.istore 5, 2) := by decide +kernel
theorem dX8_rests_40 : decode cX8_rests 40 = .ok (.iload 5, 2) := by decide +kernel
theorem dX8_rests_42 : decode cX8_rests 42 = .ok (.bipush 9, 2) := by decide +kernel
theorem dX8_rests_44 : decode cX8_rests 44 = .ok (.if_icmp .gt 78, 3) := by decide +kernel
theorem dX8_rests_47 : decode cX8_rests 47 = .ok (.iconst 0, 1) := by decide +kernel
theorem dX8_rests_48 : decode cX8_rests 48 = .ok (.istore 6, 2) := by decide +kernel
theorem dX8_rests_50 : decode cX8_rests 50 = .ok (.iload 6, 2) := by decide +kernel
theorem dX8_rests_52 : decode cX8_rests 52 = .ok (.bipush 9, 2) := by decide +kernel
theorem dX8_rests_54 : decode cX8_rests 54 = .ok (.if_icmp .gt 62, 3) := by decide +kernel
theorem dX8_rests_57 : decode cX8_rests 57 = .ok (.iload 5, 2) := by decide +kernel
theorem dX8_rests_59 : decode cX8_rests 59 = .ok (.iload 6, 2) := by decide +kernel
theorem dX8_rests_61 : decode cX8_rests 61 = .ok (.iload_n 1, 1) := by decide +kernel
theorem dX8_rests_62 : decode cX8_rests 62 = .ok (.iload_n 2, 1) := by decide +kernel
theorem dX8_rests_63 : decode cX8_rests 63 = .ok (.invokestatic 401, 3) := by decide +kernel
theorem dX8_rests_66 : decode cX8_rests 66 = .ok (.ifCond .ne 6, 3) := by decide +kernel
theorem dX8_rests_69 : decode cX8_rests 69 = .ok (.goto 41, 3) := by decide +kernel
theorem dX8_rests_72 : decode cX8_rests 72 = .ok (.iload_n 3, 1) := by decide +kernel
theorem dX8_rests_73 : decode cX8_rests 73 = .ok (.ifCond .ne 17, 3) := by decide +kernel
theorem dX8_rests_76 : decode cX8_rests 76 = .ok (.aload_n 0, 1) := by decide +kernel
theorem dX8_rests_77 : decode cX8_rests 77 = .ok (.iload 5, 2) := by decide +kernel
theorem dX8_rests_79 : decode cX8_rests 79 = .ok (.i2l, 1) := by decide +kernel
theorem dX8_rests_80 : decode cX8_rests 80 = .ok (.invokevirtual 284, 3) := by decide +kernel
theorem dX8_rests_83 : decode cX8_rests 83 = .ok (.aload_n 0, 1) := by decide +kernel
theorem dX8_rests_84 : decode cX8_rests 84 = .ok (.iload 6, 2) := by decide +kernel
theorem dX8_rests_86 : decode cX8_rests 86 = .ok (.i2l, 1) := by decide +kernel
theorem dX8_rests_87 : decode cX8_rests 87 = .ok (.invokevirtual 284, 3) := by decide +kernel
theorem dX8_rests_90 : decode cX8_rests 90 = .ok (.iinc 3 1, 3) := by decide +kernel
theorem dX8_rests_93 : decode cX8_rests 93 = .ok (.iload 4, 2) := by decide +kernel
theorem dX8_rests_95 : decode cX8_rests 95 = .ok (.iload 5, 2) := by decide +kernel
theorem dX8_rests_97 : decode cX8_rests 97 = .ok (.iload 6, 2) := by decide +kernel
theorem dX8_rests_99 : decode cX8_rests 99 = .ok (.if_icmp .lt 7, 3) := by decide +kernel
theorem dX8_rests_102 : decode cX8_rests 102 = .ok (.iconst 1, 1) := by decide +kernel
theorem dX8_rests_103 : decode cX8_rests 103 = .ok (.goto 4, 3) := by decide +kernel
theorem dX8_rests_106 : decode cX8_rests 106 = .ok (.iconst 0, 1) := by decide +kernel
theorem dX8_rests_107 : decode cX8_rests 107 = .ok (.iadd, 1) := by decide +kernel
theorem dX8_rests_108 : decode cX8_rests 108 = .ok (.istore 4, 2) := by decide +kernel
theorem dX8_rests_110 : decode cX8_rests 110 = .ok (.iinc 6 1, 3) := by decide +kernel
theorem dX8_rests_113 : decode cX8_rests 113 = .ok (.goto (-63), 3) := by decide +kernel
theorem dX8_rests_116 : decode cX8_rests 116 = .ok (.iinc 5 1, 3) := by decide +kernel
theorem dX8_rests_119 : decode cX8_rests 119 = .ok (.goto (-79), 3) := by decide +kernel
theorem dX8_rests_122 : decode cX8_rests 122 = .ok (.iload_n 3, 1) := by decide +kernel
theorem dX8_rests_123 : decode cX8_rests 123 = .ok (.ifCond .le 10, 3) := by decide +kernel
theorem dX8_rests_126 : decode cX8_rests 126 = .ok (.aload_n 0, 1) := by decide +kernel
theorem dX8_rests_127 : decode cX8_rests 127 = .ok (.iload 4, 2) := by decide +kernel
theorem dX8_rests_129 : decode cX8_rests 129 = .ok (.i2l, 1) := by decide +kernel
theorem dX8_rests_130 : decode cX8_rests 130 = .ok (.invokevirtual 284, 3) := by decide +kernel
theorem dX8_rests_133 : decode cX8_rests 133 = .ok (.iload_n 3, 1) := by decide +kernel
theorem dX8_rests_134 : decode cX8_rests 134 = .ok (.ireturn, 1) := by decide +kernel
theorem dX8_rider_0 : decode cX8_rider 0 = .ok (.aload_n 0, 1) := by decide +kernel
theorem dX8_rider_1 : decode cX8_rider 1 = .ok (.iconst 0, 1) := by decide +kernel
theorem dX8_rider_2 : decode cX8_rider 2 = .ok (.putfield 114, 3) := by decide +kernel
theorem dX8_rider_5 : decode cX8_rider 5 = .ok (.aload_n 0, 1) := by decide +kernel
theorem dX8_rider_6 : decode cX8_rider 6 = .ok (.iload_n 1, 1) := by decide +kernel
theorem dX8_rider_7 : decode cX8_rider 7 = .ok (.invokevirtual 127, 3) := by decide +kernel
theorem dX8_rider_10 : decode cX8_rider 10 = .ok (.ifCond .eq 12, 3) := by decide +kernel
theorem dX8_rider_13 : decode cX8_rider 13 = .ok (.iload_n 2, 1) := by decide +kernel
theorem dX8_rider_14 : decode cX8_rider 14 = .ok (.iconst 0, 1) := by decide +kernel
theorem dX8_rider_15 : decode cX8_rider 15 = .ok (.iconst 5, 1) := by decide +kernel
theorem dX8_rider_16 : decode cX8_rider 16 = .ok (.invokestatic 123, 3) := by decide +kernel
theorem dX8_rider_19 : decode cX8_rider 19 = .ok (.ifCond .ne 8, 3) := by decide +kernel
theorem dX8_rider_22 : decode cX8_rider 22 = .ok (.aload_n 0, 1) := by decide +kernel
theorem dX8_rider_23 : decode cX8_rider 23 = .ok (.invokevirtual 235, 3) := by decide +kernel
theorem dX8_rider_26 : decode cX8_rider 26 = .ok (.ireturn, 1) := by decide +kernel
theorem dX8_rider_27 : decode cX8_rider 27 = .ok (.iload_n 2, 1) := by decide +kernel
theorem dX8_rider_28 : decode cX8_rider 28 = .ok (.tableswitch 77 0 4 #[36, 43, 50, 57, 67], 36) := by decide +kernel
theorem dX8_rider_64 : decode cX8_rider 64 = .ok (.aload_n 0, 1) := by decide +kernel
theorem dX8_rider_65 : decode cX8_rider 65 = .ok (.getfield 20, 3) := by decide +kernel
theorem dX8_rider_68 : decode cX8_rider 68 = .ok (.iload_n 1, 1) := by decide +kernel
theorem dX8_rider_69 : decode cX8_rider 69 = .ok (.iaload, 1) := by decide +kernel
theorem dX8_rider_70 : decode cX8_rider 70 = .ok (.ireturn, 1) := by decide +kernel
theorem dX8_rider_71 : decode cX8_rider 71 = .ok (.aload_n 0, 1) := by decide +kernel
theorem dX8_rider_72 : decode cX8_rider 72 = .ok (.getfield 23, 3) := by decide +kernel
theorem dX8_rider_75 : decode cX8_rider 75 = .ok (.iload_n 1, 1) := by decide +kernel
theorem dX8_rider_76 : decode cX8_rider 76 = .ok (.iaload, 1) := by decide +kernel
theorem dX8_rider_77 : decode cX8_rider 77 = .ok (.ireturn, 1) := by decide +kernel
theorem dX8_rider_78 : decode cX8_rider 78 = .ok (.aload_n 0, 1) := by decide +kernel
theorem dX8_rider_79 : decode cX8_rider 79 = .ok (.getfield 26, 3) := by decide +kernel
theorem dX8_rider_82 : decode cX8_rider 82 = .ok (.iload_n 1, 1) := by decide +kernel
theorem dX8_rider_83 : decode cX8_rider 83 = .ok (.iaload, 1) := by decide +kernel
theorem dX8_rider_84 : decode cX8_rider 84 = .ok (.ireturn, 1) := by decide +kernel
theorem dX8_rider_85 : decode cX8_rider 85 = .ok (.aload_n 0, 1) := by decide +kernel
theorem dX8_rider_86 : decode cX8_rider 86 = .ok (.getfield 9, 3) := by decide +kernel
theorem dX8_rider_89 : decode cX8_rider 89 = .ok (.bipush 8, 2) := by decide +kernel
theorem dX8_rider_91 : decode cX8_rider 91 = .ok (.iload_n 1, 1) := by decide +kernel
theorem dX8_rider_92 : decode cX8_rider 92 = .ok (.iadd, 1) := by decide +kernel
theorem dX8_rider_93 : decode cX8_rider 93 = .ok (.iaload, 1) := by decide +kernel
theorem dX8_rider_94 : decode cX8_rider 94 = .ok (.ireturn, 1) := by decide +kernel
theorem dX8_rider_95 : decode cX8_rider 95 = .ok (.aload_n 0, 1) := by decide +kernel
theorem dX8_rider_96 : decode cX8_rider 96 = .ok (.getfield 9, 3) := by decide +kernel
theorem dX8_rider_99 : decode cX8_rider 99 = .ok (.bipush 16, 2) := by decide +kernel
theorem dX8_rider_101 : decode cX8_rider 101 = .ok (.iload_n 1, 1) := by decide +kernel
theorem dX8_rider_102 : decode cX8_rider 102 = .ok (.iadd, 1) := by decide +kernel
theorem dX8_rider_103 : decode cX8_rider 103 = .ok (.iaload, 1) := by decide +kernel
theorem dX8_rider_104 : decode cX8_rider 104 = .ok (.ireturn, 1) := by decide +kernel
theorem dX8_rider_105 : decode cX8_rider 105 = .ok (.aload_n 0, 1) := by decide +kernel
theorem dX8_rider_106 : decode cX8_rider 106 = .ok (.aload_n 0, 1) := by decide +kernel
theorem dX8_rider_107 : decode cX8_rider 107 = .ok (.getfield 9, 3) := by decide +kernel
theorem dX8_rider_110 : decode cX8_rider 110 = .ok (.iload_n 1, 1) := by decide +kernel
theorem dX8_rider_111 : decode cX8_rider 111 = .ok (.invokevirtual 238, 3) := by decide +kernel
theorem dX8_rider_114 : decode cX8_rider 114 = .ok (.ireturn, 1) := by decide +kernel
theorem dX8_riders_0 : decode cX8_riders 0 = .ok (.aload_n 0, 1) := by decide +kernel
theorem dX8_riders_1 : decode cX8_riders 1 = .ok (.iconst 0, 1) := by decide +kernel
theorem dX8_riders_2 : decode cX8_riders 2 = .ok (.putfield 114, 3) := by decide +kernel
theorem dX8_riders_5 : decode cX8_riders 5 = .ok (.aload_n 0, 1) := by decide +kernel
theorem dX8_riders_6 : decode cX8_riders 6 = .ok (.bipush 76, 2) := by decide +kernel
theorem dX8_riders_8 : decode cX8_riders 8 = .ok (.invokevirtual 173, 3) := by decide +kernel
theorem dX8_riders_11 : decode cX8_riders 11 = .ok (.aload_n 0, 1) := by decide +kernel
theorem dX8_riders_12 : decode cX8_riders 12 = .ok (.getfield 137, 3) := by decide +kernel
theorem dX8_riders_15 : decode cX8_riders 15 = .ok (.ifCond .ne 5, 3) := by decide +kernel
theorem dX8_riders_18 : decode cX8_riders 18 = .ok (.iconst 0, 1) := by decide +kernel
theorem dX8_riders_19 : decode cX8_riders 19 = .ok (.ireturn, 1) := by decide +kernel
theorem dX8_riders_20 : decode cX8_riders 20 = .ok (.iconst 0, 1) := by decide +kernel
theorem dX8_riders_21 : decode cX8_riders 21 = .ok (.istore_n 1, 1) := by decide +kernel
theorem dX8_riders_22 : decode cX8_riders 22 = .ok (.iconst 1, 1) := by decide +kernel
theorem dX8_riders_23 : decode cX8_riders 23 = .ok (.istore_n 2, 1) := by decide +kernel
theorem dX8_riders_24 : decode cX8_riders 24 = .ok (.iload_n 2, 1) := by decide +kernel
theorem dX8_riders_25 : decode cX8_riders 25 = .ok (.ifCond .eq 52, 3) := by decide +kernel
theorem dX8_riders_28 : decode cX8_riders 28 = .ok (.aload_n 0, 1) := by decide +kernel
theorem dX8_riders_29 : decode cX8_riders 29 = .ok (.invokevirtual 153, 3) := by decide +kernel
theorem dX8_riders_32 : decode cX8_riders 32 = .ok (.ifCond .eq 45, 3) := by decide +kernel
theorem dX8_riders_35 : decode cX8_riders 35 = .ok (.aload_n 0, 1) := by decide +kernel
theorem dX8_riders_36 : decode cX8_riders 36 = .ok (.getfield 120, 3) := by decide +kernel
theorem dX8_riders_39 : decode cX8_riders 39 = .ok (.iload_n 1, 1) := by decide +kernel
theorem dX8_riders_40 : decode cX8_riders 40 = .ok (.iadd, 1) := by decide +kernel
theorem dX8_riders_41 : decode cX8_riders 41 = .ok (.bipush 8, 2) := by decide +kernel
theorem dX8_riders_43 : decode cX8_riders 43 = .ok (.if_icmp .ne 14, 3) := by decide +kernel
theorem dX8_riders_46 : decode cX8_riders 46 = .ok (.aload_n 0, 1) := by decide +kernel
theorem dX8_riders_47 : decode cX8_riders 47 = .ok (.aload_n 0, 1) := by decide +kernel
theorem dX8_riders_48 : decode cX8_riders 48 = .ok (.getfield 143, 3) := by decide +kernel
theorem dX8_riders_51 : decode cX8_riders 51 = .ok (.invokevirtual 165, 3) := by decide +kernel
theorem dX8_riders_54 : decode cX8_riders 54 = .ok (.goto 10, 3) := by decide +kernel
theorem dX8_riders_57 : decode cX8_riders 57 = .ok (.aload_n 0, 1) := by decide +kernel
theorem dX8_riders_58 : decode cX8_riders 58 = .ok (.iconst 3, 1) := by decide +kernel
theorem dX8_riders_59 : decode cX8_riders 59 = .ok (.iload_n 1, 1) := by decide +kernel
theorem dX8_riders_60 : decode cX8_riders 60 = .ok (.imul, 1) := by decide +kernel
theorem dX8_riders_61 : decode cX8_riders 61 = .ok (.invokevirtual 176, 3) := by decide +kernel
theorem dX8_riders_64 : decode cX8_riders 64 = .ok (.iinc 1 1, 3) := by decide +kernel
theorem dX8_riders_67 : decode cX8_riders 67 = .ok (.aload_n 0, 1) := by decide +kernel
theorem dX8_riders_68 : decode cX8_riders 68 = .ok (.bipush 59, 2) := by decide +kernel
theorem dX8_riders_70 : decode cX8_riders 70 = .ok (.invokevirtual 161, 3) := by decide +kernel
theorem dX8_riders_73 : decode cX8_riders 73 = .ok (.istore_n 2, 1) := by decide +kernel
theorem dX8_riders_74 : decode cX8_riders 74 = .ok (.goto (-50), 3) := by decide +kernel
theorem dX8_riders_77 : decode cX8_riders 77 = .ok (.aload_n 0, 1) := by decide +kernel
theorem dX8_riders_78 : decode cX8_riders 78 = .ok (.invokevirtual 179, 3) := by decide +kernel
theorem dX8_riders_81 : decode cX8_riders 81 = .ok (.ifCond .ne 10, 3) := by decide +kernel
theorem dX8_riders_84 : decode cX8_riders 84 = .ok (.iconst (-1), 1) := by decide +kernel
theorem dX8_riders_85 : decode cX8_riders 85 = .ok (.aload_n 0, 1) := by decide +kernel
theorem dX8_riders_86 : decode cX8_riders 86 = .ok (.getfield 146, 3) := by decide +kernel
theorem dX8_riders_89 : decode cX8_riders 89 = .ok (.isub, 1) := by decide +kernel
theorem dX8_riders_90 : decode cX8_riders 90 = .ok (.ireturn, 1) := by decide +kernel
theorem dX8_riders_91 : decode cX8_riders 91 = .ok (.iconst 0, 1) := by decide +kernel
theorem dX8_riders_92 : decode cX8_riders 92 = .ok (.istore_n 3, 1) := by decide +kernel
theorem dX8_riders_93 : decode cX8_riders 93 = .ok (.iload_n 3, 1) := by decide +kernel
theorem dX8_riders_94 : decode cX8_riders 94 = .ok (.iload_n 1, 1) := by decide +kernel
theorem dX8_riders_95 : decode cX8_riders 95 = .ok (.if_icmp .ge 100, 3) := by decide +kernel
theorem dX8_riders_98 : decode cX8_riders 98 = .ok (.aload_n 0, 1) := by decide +kernel
theorem dX8_riders_99 : decode cX8_riders 99 = .ok (.getfield 20, 3) := by decide +kernel
theorem dX8_riders_102 : decode cX8_riders 102 = .ok (.aload_n 0, 1) := by decide +kernel
theorem dX8_riders_103 : decode cX8_riders 103 = .ok (.getfield 120, 3) := by decide +kernel
theorem dX8_riders_106 : decode cX8_riders 106 = .ok (.aload_n 0, 1) := by decide +kernel
theorem dX8_riders_107 : decode cX8_riders 107 = .ok (.getfield 37, 3) := by decide +kernel
theorem dX8_riders_110 : decode cX8_riders 110 = .ok (.iconst 3, 1) := by decide +kernel
theorem dX8_riders_111 : decode cX8_riders 111 = .ok (.iload_n 3, 1) := by decide +kernel
theorem dX8_riders_112 : decode cX8_riders 112 = .ok (.imul, 1) := by decide +kernel
theorem dX8_riders_113 : decode cX8_riders 113 = .ok (.iaload, 1) := by decide +kernel
theorem dX8_riders_114 : decode cX8_riders 114 = .ok (.iastore, 1) := by decide +kernel
theorem dX8_riders_115 : decode cX8_riders 115 = .ok (.aload_n 0, 1) := by decide +kernel
theorem dX8_riders_116 : decode cX8_riders 116 = .ok (.getfield 23, 3) := by decide +kernel
theorem dX8_riders_119 : decode cX8_riders 119 = .ok (.aload_n 0, 1) := by decide +kernel
theorem dX8_riders_120 : decode cX8_riders 120 = .ok (.getfield 120, 3) := by decide +kernel
theorem dX8_riders_123 : decode cX8_riders 123 = .ok (.aload_n 0, 1) := by decide +kernel
theorem dX8_riders_124 : decode cX8_riders 124 = .ok (.getfield 37, 3) := by decide +kernel
theorem dX8_riders_127 : decode cX8_riders 127 = .ok (.iconst 3, 1) := by decide +kernel
theorem dX8_riders_128 : decode cX8_riders 128 = .ok (.iload_n 3, 1) := by decide +kernel
theorem dX8_riders_129 : decode cX8_riders 129 = .ok (.imul, 1) := by decide +kernel
theorem dX8_riders_130 : decode cX8_riders 130 = .ok (.iconst 1, 1) := by decide +kernel
theorem dX8_riders_131 : decode cX8_riders 131 = .ok (.iadd, 1) := by decide +kernel
theorem dX8_riders_132 : decode cX8_riders 132 = .ok (.iaload, 1) := by decide +kernel
theorem dX8_riders_133 : decode cX8_riders 133 = .ok (.iastore, 1) := by decide +kernel
theorem dX8_riders_134 : decode cX8_riders 134 = .ok (.aload_n 0, 1) := by decide +kernel
theorem dX8_riders_135 : decode cX8_riders 135 = .ok (.getfield 26, 3) := by decide +kernel
theorem dX8_riders_138 : decode cX8_riders 138 = .ok (.aload_n 0, 1) := by decide +kernel
theorem dX8_riders_139 : decode cX8_riders 139 = .ok (.getfield 120, 3) := by decide +kernel
theorem dX8_riders_142 : decode cX8_riders 142 = .ok (.aload_n 0, 1) := by decide +kernel
theorem dX8_riders_143 : decode cX8_riders 143 = .ok (.getfield 37, 3) := by decide +kernel
theorem dX8_riders_146 : decode cX8_riders 146 = .ok (.iconst 3, 1) := by decide +kernel
theorem dX8_riders_147 : decode cX8_riders 147 = .ok (.iload_n 3, 1) := by decide +kernel
theorem dX8_riders_148 : decode cX8_riders 148 = .ok (.imul, 1) := by decide +kernel
theorem dX8_riders_149 : decode cX8_riders 149 = .ok (.iconst 2, 1) := by decide +kernel
theorem dX8_riders_150 : decode cX8_riders 150 = .ok (.iadd, 1) := by decide +kernel
theorem dX8_riders_151 : decode cX8_riders 151 = .ok (.iaload, 1) := by decide +kernel
theorem dX8_riders_152 : decode cX8_riders 152 = .ok (.iastore, 1) := by decide +kernel
theorem dX8_riders_153 : decode cX8_riders 153 = .ok (.aload_n 0, 1) := by decide +kernel
theorem dX8_riders_154 : decode cX8_riders 154 = .ok (.getfield 9, 3) := by decide +kernel
theorem dX8_riders_157 : decode cX8_riders 157 = .ok (.bipush 8, 2) := by decide +kernel
theorem dX8_riders_159 : decode cX8_riders 159 = .ok (.aload_n 0, 1) := by decide +kernel
theorem dX8_riders_160 : decode cX8_riders 160 = .ok (.getfield 120, 3) := by decide +kernel
theorem dX8_riders_163 : decode cX8_riders 163 = .ok (.iadd, 1) := by decide +kernel
theorem dX8_riders_164 : decode cX8_riders 164 = .ok (.iconst 0, 1) := by decide +kernel
theorem dX8_riders_165 : decode cX8_riders 165 = .ok (.iastore, 1) := by decide +kernel
theorem dX8_riders_166 : decode cX8_riders 166 = .ok (.aload_n 0, 1) := by decide +kernel
theorem dX8_riders_167 : decode cX8_riders 167 = .ok (.getfield 9, 3) := by decide +kernel
theorem dX8_riders_170 : decode cX8_riders 170 = .ok (.bipush 16, 2) := by decide +kernel
theorem dX8_riders_172 : decode cX8_riders 172 = .ok (.aload_n 0, 1) := by decide +kernel
theorem dX8_riders_173 : decode cX8_riders 173 = .ok (.getfield 120, 3) := by decide +kernel
theorem dX8_riders_176 : decode cX8_riders 176 = .ok (.iadd, 1) := by decide +kernel
theorem dX8_riders_177 : decode cX8_riders 177 = .ok (.iconst 0, 1) := by decide +kernel
theorem dX8_riders_178 : decode cX8_riders 178 = .ok (.iastore, 1) := by decide +kernel
theorem dX8_riders_179 : decode cX8_riders 179 = .ok (.aload_n 0, 1) := by decide +kernel
theorem dX8_riders_180 : decode cX8_riders 180 = .ok (.dup, 1) := by decide +kernel
theorem dX8_riders_181 : decode cX8_riders 181 = .ok (.getfield 120, 3) := by decide +kernel
theorem dX8_riders_184 : decode cX8_riders 184 = .ok (.iconst 1, 1) := by decide +kernel
theorem dX8_riders_185 : decode cX8_riders 185 = .ok (.iadd, 1) := by decide +kernel
theorem dX8_riders_186 : decode cX8_riders 186 = .ok (.putfield 120, 3) := by decide +kernel
theorem dX8_riders_189 : decode cX8_riders 189 = .ok (.iinc 3 1, 3) := by decide +kernel
theorem dX8_riders_192 : decode cX8_riders 192 = .ok (.goto (-99), 3) := by decide +kernel
theorem dX8_riders_195 : decode cX8_riders 195 = .ok (.aload_n 0, 1) := by decide +kernel
theorem dX8_riders_196 : decode cX8_riders 196 = .ok (.iconst 0, 1) := by decide +kernel
theorem dX8_riders_197 : decode cX8_riders 197 = .ok (.putfield 182, 3) := by decide +kernel
theorem dX8_riders_200 : decode cX8_riders 200 = .ok (.aload_n 0, 1) := by decide +kernel
theorem dX8_riders_201 : decode cX8_riders 201 = .ok (.dup, 1) := by decide +kernel
theorem dX8_riders_202 : decode cX8_riders 202 = .ok (.getfield 185, 3) := by decide +kernel
theorem dX8_riders_205 : decode cX8_riders 205 = .ok (.iconst 1, 1) := by decide +kernel
theorem dX8_riders_206 : decode cX8_riders 206 = .ok (.iadd, 1) := by decide +kernel
theorem dX8_riders_207 : decode cX8_riders 207 = .ok (.putfield 185, 3) := by decide +kernel
theorem dX8_riders_210 : decode cX8_riders 210 = .ok (.iload_n 1, 1) := by decide +kernel
theorem dX8_riders_211 : decode cX8_riders 211 = .ok (.ireturn, 1) := by decide +kernel
theorem dX8_rota_0 : decode cX8_rota 0 = .ok (.aload_n 0, 1) := by decide +kernel
theorem dX8_rota_1 : decode cX8_rota 1 = .ok (.iconst 0, 1) := by decide +kernel
theorem dX8_rota_2 : decode cX8_rota 2 = .ok (.putfield 114, 3) := by decide +kernel
theorem dX8_rota_5 : decode cX8_rota 5 = .ok (.aload_n 0, 1) := by decide +kernel
theorem dX8_rota_6 : decode cX8_rota 6 = .ok (.aload_n 0, 1) := by decide +kernel
theorem dX8_rota_7 : decode cX8_rota 7 = .ok (.getfield 13, 3) := by decide +kernel
theorem dX8_rota_10 : decode cX8_rota 10 = .ok (.invokevirtual 173, 3) := by decide +kernel
theorem dX8_rota_13 : decode cX8_rota 13 = .ok (.iconst 0, 1) := by decide +kernel
theorem dX8_rota_14 : decode cX8_rota 14 = .ok (.istore_n 1, 1) := by decide +kernel
theorem dX8_rota_15 : decode cX8_rota 15 = .ok (.iload_n 1, 1) := by decide +kernel
theorem dX8_rota_16 : decode cX8_rota 16 = .ok (.aload_n 0, 1) := by decide +kernel
theorem dX8_rota_17 : decode cX8_rota 17 = .ok (.getfield 13, 3) := by decide +kernel
theorem dX8_rota_20 : decode cX8_rota 20 = .ok (.if_icmp .ge 82, 3) := by decide +kernel
theorem dX8_rota_23 : decode cX8_rota 23 = .ok (.aload_n 0, 1) := by decide +kernel
theorem dX8_rota_24 : decode cX8_rota 24 = .ok (.invokevirtual 153, 3) := by decide +kernel
theorem dX8_rota_27 : decode cX8_rota 27 = .ok (.ifCond .eq 75, 3) := by decide +kernel
theorem dX8_rota_30 : decode cX8_rota 30 = .ok (.aload_n 0, 1) := by decide +kernel
theorem dX8_rota_31 : decode cX8_rota 31 = .ok (.invokevirtual 157, 3) := by decide +kernel
theorem dX8_rota_34 : decode cX8_rota 34 = .ok (.bipush 45, 2) := by decide +kernel
theorem dX8_rota_36 : decode cX8_rota 36 = .ok (.if_icmp .ne 7, 3) := by decide +kernel
theorem dX8_rota_39 : decode cX8_rota 39 = .ok (.iconst (-1), 1) := by decide +kernel
theorem dX8_rota_40 : decode cX8_rota 40 = .ok (.goto 10, 3) := by decide +kernel
theorem dX8_rota_43 : decode cX8_rota 43 = .ok (.aload_n 0, 1) := by decide +kernel
theorem dX8_rota_44 : decode cX8_rota 44 = .ok (.invokevirtual 157, 3) := by decide +kernel
theorem dX8_rota_47 : decode cX8_rota 47 = .ok (.bipush 48, 2) := by decide +kernel
theorem dX8_rota_49 : decode cX8_rota 49 = .ok (.isub, 1) := by decide +kernel
theorem dX8_rota_50 : decode cX8_rota 50 = .ok (.istore_n 2, 1) := by decide +kernel
theorem dX8_rota_51 : decode cX8_rota 51 = .ok (.aload_n 0, 1) := by decide +kernel
theorem dX8_rota_52 : decode cX8_rota 52 = .ok (.invokevirtual 157, 3) := by decide +kernel
theorem dX8_rota_55 : decode cX8_rota 55 = .ok (.bipush 45, 2) := by decide +kernel
theorem dX8_rota_57 : decode cX8_rota 57 = .ok (.if_icmp .eq 22, 3) := by decide +kernel
theorem dX8_rota_60 : decode cX8_rota 60 = .ok (.aload_n 0, 1) := by decide +kernel
theorem dX8_rota_61 : decode cX8_rota 61 = .ok (.iload_n 2, 1) := by decide +kernel
theorem dX8_rota_62 : decode cX8_rota 62 = .ok (.invokevirtual 127, 3) := by decide +kernel
theorem dX8_rota_65 : decode cX8_rota 65 = .ok (.ifCond .ne 14, 3) := by decide +kernel
theorem dX8_rota_68 : decode cX8_rota 68 = .ok (.aload_n 0, 1) := by decide +kernel
theorem dX8_rota_69 : decode cX8_rota 69 = .ok (.aload_n 0, 1) := by decide +kernel
theorem dX8_rota_70 : decode cX8_rota 70 = .ok (.getfield 143, 3) := by decide +kernel
theorem dX8_rota_73 : decode cX8_rota 73 = .ok (.invokevirtual 165, 3) := by decide +kernel
theorem dX8_rota_76 : decode cX8_rota 76 = .ok (.goto 20, 3) := by decide +kernel
theorem dX8_rota_79 : decode cX8_rota 79 = .ok (.aload_n 0, 1) := by decide +kernel
theorem dX8_rota_80 : decode cX8_rota 80 = .ok (.dup, 1) := by decide +kernel
theorem dX8_rota_81 : decode cX8_rota 81 = .ok (.getfield 143, 3) := by decide +kernel
theorem dX8_rota_84 : decode cX8_rota 84 = .ok (.iconst 1, 1) := by decide +kernel
theorem dX8_rota_85 : decode cX8_rota 85 = .ok (.iadd, 1) := by decide +kernel
theorem dX8_rota_86 : decode cX8_rota 86 = .ok (.putfield 143, 3) := by decide +kernel
theorem dX8_rota_89 : decode cX8_rota 89 = .ok (.aload_n 0, 1) := by decide +kernel
theorem dX8_rota_90 : decode cX8_rota 90 = .ok (.getfield 37, 3) := by decide +kernel
theorem dX8_rota_93 : decode cX8_rota 93 = .ok (.iload_n 1, 1) := by decide +kernel
theorem dX8_rota_94 : decode cX8_rota 94 = .ok (.iload_n 2, 1) := by decide +kernel
theorem dX8_rota_95 : decode cX8_rota 95 = .ok (.iastore, 1) := by decide +kernel
theorem dX8_rota_96 : decode cX8_rota 96 = .ok (.iinc 1 1, 3) := by decide +kernel
theorem dX8_rota_99 : decode cX8_rota 99 = .ok (.goto (-84), 3) := by decide +kernel
theorem dX8_rota_102 : decode cX8_rota 102 = .ok (.aload_n 0, 1) := by decide +kernel
theorem dX8_rota_103 : decode cX8_rota 103 = .ok (.invokevirtual 179, 3) := by decide +kernel
theorem dX8_rota_106 : decode cX8_rota 106 = .ok (.ifCond .ne 10, 3) := by decide +kernel
theorem dX8_rota_109 : decode cX8_rota 109 = .ok (.iconst (-1), 1) := by decide +kernel
theorem dX8_rota_110 : decode cX8_rota 110 = .ok (.aload_n 0, 1) := by decide +kernel
theorem dX8_rota_111 : decode cX8_rota 111 = .ok (.getfield 146, 3) := by decide +kernel
theorem dX8_rota_114 : decode cX8_rota 114 = .ok (.isub, 1) := by decide +kernel
theorem dX8_rota_115 : decode cX8_rota 115 = .ok (.ireturn, 1) := by decide +kernel
theorem dX8_rota_116 : decode cX8_rota 116 = .ok (.aload_n 0, 1) := by decide +kernel
theorem dX8_rota_117 : decode cX8_rota 117 = .ok (.aload_n 0, 1) := by decide +kernel
theorem dX8_rota_118 : decode cX8_rota 118 = .ok (.getfield 9, 3) := by decide +kernel
theorem dX8_rota_121 : decode cX8_rota 121 = .ok (.invokevirtual 253, 3) := by decide +kernel
theorem dX8_rota_124 : decode cX8_rota 124 = .ok (.iconst 0, 1) := by decide +kernel
theorem dX8_rota_125 : decode cX8_rota 125 = .ok (.istore_n 1, 1) := by decide +kernel
theorem dX8_rota_126 : decode cX8_rota 126 = .ok (.iconst 0, 1) := by decide +kernel
theorem dX8_rota_127 : decode cX8_rota 127 = .ok (.istore_n 2, 1) := by decide +kernel
theorem dX8_rota_128 : decode cX8_rota 128 = .ok (.iload_n 2, 1) := by decide +kernel
theorem dX8_rota_129 : decode cX8_rota 129 = .ok (.bipush 8, 2) := by decide +kernel
theorem dX8_rota_131 : decode cX8_rota 131 = .ok (.if_icmp .ge 51, 3) := by decide +kernel
theorem dX8_rota_134 : decode cX8_rota 134 = .ok (.aload_n 0, 1) := by decide +kernel
theorem dX8_rota_135 : decode cX8_rota 135 = .ok (.getfield 9, 3) := by decide +kernel
theorem dX8_rota_138 : decode cX8_rota 138 = .ok (.iload_n 2, 1) := by decide +kernel
theorem dX8_rota_139 : decode cX8_rota 139 = .ok (.iload_n 2, 1) := by decide +kernel
theorem dX8_rota_140 : decode cX8_rota 140 = .ok (.aload_n 0, 1) := by decide +kernel
theorem dX8_rota_141 : decode cX8_rota 141 = .ok (.getfield 13, 3) := by decide +kernel
theorem dX8_rota_144 : decode cX8_rota 144 = .ok (.if_icmp .ge 12, 3) := by decide +kernel
theorem dX8_rota_147 : decode cX8_rota 147 = .ok (.aload_n 0, 1) := by decide +kernel
theorem dX8_rota_148 : decode cX8_rota 148 = .ok (.getfield 37, 3) := by decide +kernel
theorem dX8_rota_151 : decode cX8_rota 151 = .ok (.iload_n 2, 1) := by decide +kernel
theorem dX8_rota_152 : decode cX8_rota 152 = .ok (.iaload, 1) := by decide +kernel
theorem dX8_rota_153 : decode cX8_rota 153 = .ok (.goto 4, 3) := by decide +kernel
theorem dX8_rota_156 : decode cX8_rota 156 = .ok (.iconst (-1), 1) := by decide +kernel
theorem dX8_rota_157 : decode cX8_rota 157 = .ok (.iastore, 1) := by decide +kernel
theorem dX8_rota_158 : decode cX8_rota 158 = .ok (.iload_n 1, 1) := by decide +kernel
theorem dX8_rota_159 : decode cX8_rota 159 = .ok (.aload_n 0, 1) := by decide +kernel
theorem dX8_rota_160 : decode cX8_rota 160 = .ok (.getfield 9, 3) := by decide +kernel
theorem dX8_rota_163 : decode cX8_rota 163 = .ok (.iload_n 2, 1) := by decide +kernel
theorem dX8_rota_164 : decode cX8_rota 164 = .ok (.iaload, 1) := by decide +kernel
theorem dX8_rota_165 : decode cX8_rota 165 = .ok (.iconst (-1), 1) := by decide +kernel
theorem dX8_rota_166 : decode cX8_rota 166 = .ok (.if_icmp .ne 7, 3) := by decide +kernel
theorem dX8_rota_169 : decode cX8_rota 169 = .ok (.iconst 0, 1) := by decide +kernel
theorem dX8_rota_170 : decode cX8_rota 170 = .ok (.goto 4, 3) := by decide +kernel
theorem dX8_rota_173 : decode cX8_rota 173 = .ok (.iconst 1, 1) := by decide +kernel
theorem dX8_rota_174 : decode cX8_rota 174 = .ok (.iadd, 1) := by decide +kernel
theorem dX8_rota_175 : decode cX8_rota 175 = .ok (.istore_n 1, 1) := by decide +kernel
theorem dX8_rota_176 : decode cX8_rota 176 = .ok (.iinc 2 1, 3) := by decide +kernel
theorem dX8_rota_179 : decode cX8_rota 179 = .ok (.goto (-51), 3) := by decide +kernel
theorem dX8_rota_182 : decode cX8_rota 182 = .ok (.iload_n 1, 1) := by decide +kernel
theorem dX8_rota_183 : decode cX8_rota 183 = .ok (.ireturn, 1) := by decide +kernel
theorem dX8_rotas_0 : decode cX8_rotas 0 = .ok (.aload_n 0, 1) := by decide +kernel
theorem dX8_rotas_1 : decode cX8_rotas 1 = .ok (.iconst 0, 1) := by decide +kernel
theorem dX8_rotas_2 : decode cX8_rotas 2 = .ok (.putfield 114, 3) := by decide +kernel
theorem dX8_rotas_5 : decode cX8_rotas 5 = .ok (.aload_n 0, 1) := by decide +kernel
theorem dX8_rotas_6 : decode cX8_rotas 6 = .ok (.iconst (-1), 1) := by decide +kernel
theorem dX8_rotas_7 : decode cX8_rotas 7 = .ok (.invokevirtual 335, 3) := by decide +kernel
theorem dX8_rotas_10 : decode cX8_rotas 10 = .ok (.aload_n 0, 1) := by decide +kernel
theorem dX8_rotas_11 : decode cX8_rotas 11 = .ok (.invokevirtual 353, 3) := by decide +kernel
theorem dX8_rotas_14 : decode cX8_rotas 14 = .ok (.ireturn, 1) := by decide +kernel
theorem dX8_row_0 : decode cX8_row 0 = .ok (.aload_n 0, 1) := by decide +kernel
theorem dX8_row_1 : decode cX8_row 1 = .ok (.iconst 0, 1) := by decide +kernel
theorem dX8_row_2 : decode cX8_row 2 = .ok (.putfield 114, 3) := by decide +kernel
theorem dX8_row_5 : decode cX8_row 5 = .ok (.iload_n 1, 1) := by decide +kernel
theorem dX8_row_6 : decode cX8_row 6 = .ok (.iconst 0, 1) := by decide +kernel
theorem dX8_row_7 : decode cX8_row 7 = .ok (.aload_n 0, 1) := by decide +kernel
theorem dX8_row_8 : decode cX8_row 8 = .ok (.getfield 117, 3) := by decide +kernel
theorem dX8_row_11 : decode cX8_row 11 = .ok (.iconst 1, 1) := by decide +kernel
theorem dX8_row_12 : decode cX8_row 12 = .ok (.isub, 1) := by decide +kernel
theorem dX8_row_13 : decode cX8_row 13 = .ok (.invokestatic 123, 3) := by decide +kernel
theorem dX8_row_16 : decode cX8_row 16 = .ok (.ifCond .eq 12, 3) := by decide +kernel
theorem dX8_row_19 : decode cX8_row 19 = .ok (.aload_n 0, 1) := by decide +kernel
theorem dX8_row_20 : decode cX8_row 20 = .ok (.getfield 33, 3) := by decide +kernel
theorem dX8_row_23 : decode cX8_row 23 = .ok (.iload_n 1, 1) := by decide +kernel
theorem dX8_row_24 : decode cX8_row 24 = .ok (.laload, 1) := by decide +kernel
theorem dX8_row_25 : decode cX8_row 25 = .ok (.goto 8, 3) := by decide +kernel
theorem dX8_row_28 : decode cX8_row 28 = .ok (.aload_n 0, 1) := by decide +kernel
theorem dX8_row_29 : decode cX8_row 29 = .ok (.invokevirtual 235, 3) := by decide +kernel
theorem dX8_row_32 : decode cX8_row 32 = .ok (.i2l, 1) := by decide +kernel
theorem dX8_row_33 : decode cX8_row 33 = .ok (.lreturn, 1) := by decide +kernel
theorem dX8_rule_0 : decode cX8_rule 0 = .ok (.aload_n 0, 1) := by decide +kernel
theorem dX8_rule_1 : decode cX8_rule 1 = .ok (.iconst 0, 1) := by decide +kernel
theorem dX8_rule_2 : decode cX8_rule 2 = .ok (.putfield 114, 3) := by decide +kernel
theorem dX8_rule_5 : decode cX8_rule 5 = .ok (.aload_n 0, 1) := by decide +kernel
theorem dX8_rule_6 : decode cX8_rule 6 = .ok (.getfield 131, 3) := by decide +kernel
theorem dX8_rule_9 : decode cX8_rule 9 = .ok (.istore_n 1, 1) := by decide +kernel
theorem dX8_rule_10 : decode cX8_rule 10 = .ok (.aload_n 0, 1) := by decide +kernel
theorem dX8_rule_11 : decode cX8_rule 11 = .ok (.invokevirtual 215, 3) := by decide +kernel
theorem dX8_rule_14 : decode cX8_rule 14 = .ok (.ifCond .ne 10, 3) := by decide +kernel
theorem dX8_rule_17 : decode cX8_rule 17 = .ok (.iconst (-1), 1) := by decide +kernel
theorem dX8_rule_18 : decode cX8_rule 18 = .ok (.aload_n 0, 1) := by decide +kernel
theorem dX8_rule_19 : decode cX8_rule 19 = .ok (.getfield 146, 3) := by decide +kernel
theorem dX8_rule_22 : decode cX8_rule 22 = .ok (.isub, 1) := by decide +kernel
theorem dX8_rule_23 : decode cX8_rule 23 = .ok (.ireturn, 1) := by decide +kernel
theorem dX8_rule_24 : decode cX8_rule 24 = .ok (.iconst 0, 1) := by decide +kernel
theorem dX8_rule_25 : decode cX8_rule 25 = .ok (.istore_n 2, 1) := by decide +kernel
theorem dX8_rule_26 : decode cX8_rule 26 = .ok (.iload_n 2, 1) := by decide +kernel
theorem dX8_rule_27 : decode cX8_rule 27 = .ok (.iload_n 1, 1) := by decide +kernel
theorem dX8_rule_28 : decode cX8_rule 28 = .ok (.if_icmp .ge 21, 3) := by decide +kernel
theorem dX8_rule_31 : decode cX8_rule 31 = .ok (.aload_n 0, 1) := by decide +kernel
theorem dX8_rule_32 : decode cX8_rule 32 = .ok (.getfield 40, 3) := by decide +kernel
theorem dX8_rule_35 : decode cX8_rule 35 = .ok (.iload_n 2, 1) := by decide +kernel
theorem dX8_rule_36 : decode cX8_rule 36 = .ok (.aload_n 0, 1) := by decide +kernel
theorem dX8_rule_37 : decode cX8_rule 37 = .ok (.getfield 29, 3) := by decide +kernel
theorem dX8_rule_40 : decode cX8_rule 40 = .ok (.iload_n 2, 1) := by decide +kernel
theorem dX8_rule_41 : decode cX8_rule 41 = .ok (.baload, 1) := by decide +kernel
theorem dX8_rule_42 : decode cX8_rule 42 = .ok (.bastore, 1) := by decide +kernel
theorem dX8_rule_43 : decode cX8_rule 43 = .ok (.iinc 2 1, 3) := by decide +kernel
theorem dX8_rule_46 : decode cX8_rule 46 = .ok (.goto (-20), 3) := by decide +kernel
theorem dX8_rule_49 : decode cX8_rule 49 = .ok (.aload_n 0, 1) := by decide +kernel
theorem dX8_rule_50 : decode cX8_rule 50 = .ok (.iload_n 1, 1) := by decide +kernel
theorem dX8_rule_51 : decode cX8_rule 51 = .ok (.putfield 218, 3) := by decide +kernel
theorem dX8_rule_54 : decode cX8_rule 54 = .ok (.iconst 0, 1) := by decide +kernel
theorem dX8_rule_55 : decode cX8_rule 55 = .ok (.ireturn, 1) := by decide +kernel
theorem dX8_set_0 : decode cX8_set 0 = .ok (.aload_n 0, 1) := by decide +kernel
theorem dX8_set_1 : decode cX8_set 1 = .ok (.iconst 0, 1) := by decide +kernel
theorem dX8_set_2 : decode cX8_set 2 = .ok (.putfield 114, 3) := by decide +kernel
theorem dX8_set_5 : decode cX8_set 5 = .ok (.iload_n 1, 1) := by decide +kernel
theorem dX8_set_6 : decode cX8_set 6 = .ok (.ifCond .ne 16, 3) := by decide +kernel
theorem dX8_set_9 : decode cX8_set 9 = .ok (.iload_n 2, 1) := by decide +kernel
theorem dX8_set_10 : decode cX8_set 10 = .ok (.iconst 1, 1) := by decide +kernel
theorem dX8_set_11 : decode cX8_set 11 = .ok (.bipush 8, 2) := by decide +kernel
theorem dX8_set_13 : decode cX8_set 13 = .ok (.invokestatic 123, 3) := by decide +kernel
theorem dX8_set_16 : decode cX8_set 16 = .ok (.ifCond .ne 23, 3) := by decide +kernel
theorem dX8_set_19 : decode cX8_set 19 = .ok (.goto 18, 3) := by decide +kernel
theorem dX8_set_22 : decode cX8_set 22 = .ok (.iload_n 1, 1) := by decide +kernel
theorem dX8_set_23 : decode cX8_set 23 = .ok (.iconst 1, 1) := by decide +kernel
theorem dX8_set_24 : decode cX8_set 24 = .ok (.if_icmp .ne 13, 3) := by decide +kernel
theorem dX8_set_27 : decode cX8_set 27 = .ok (.iload_n 2, 1) := by decide +kernel
theorem dX8_set_28 : decode cX8_set 28 = .ok (.iconst 0, 1) := by decide +kernel
theorem dX8_set_29 : decode cX8_set 29 = .ok (.bipush 9, 2) := by decide +kernel
theorem dX8_set_31 : decode cX8_set 31 = .ok (.invokestatic 123, 3) := by decide +kernel
theorem dX8_set_34 : decode cX8_set 34 = .ok (.ifCond .ne 5, 3) := by decide +kernel
theorem dX8_set_37 : decode cX8_set 37 = .ok (.iconst (-1), 1) := by decide +kernel
theorem dX8_set_38 : decode cX8_set 38 = .ok (.ireturn, 1) := by decide +kernel
theorem dX8_set_39 : decode cX8_set 39 = .ok (.iload_n 1, 1) := by decide +kernel
theorem dX8_set_40 : decode cX8_set 40 = .ok (.ifCond .ne 10, 3) := by decide +kernel
theorem dX8_set_43 : decode cX8_set 43 = .ok (.aload_n 0, 1) := by decide +kernel
theorem dX8_set_44 : decode cX8_set 44 = .ok (.getfield 13, 3) := by decide +kernel
theorem dX8_set_47 : decode cX8_set 47 = .ok (.goto 7, 3) := by decide +kernel
theorem dX8_set_50 : decode cX8_set 50 = .ok (.aload_n 0, 1) := by decide +kernel
theorem dX8_set_51 : decode cX8_set 51 = .ok (.getfield 17, 3) := by decide +kernel
theorem dX8_set_54 : decode cX8_set 54 = .ok (.istore_n 3, 1) := by decide +kernel
theorem dX8_set_55 : decode cX8_set 55 = .ok (.iload_n 1, 1) := by decide +kernel
theorem dX8_set_56 : decode cX8_set 56 = .ok (.ifCond .ne 11, 3) := by decide +kernel
theorem dX8_set_59 : decode cX8_set 59 = .ok (.aload_n 0, 1) := by decide +kernel
theorem dX8_set_60 : decode cX8_set 60 = .ok (.iload_n 2, 1) := by decide +kernel
theorem dX8_set_61 : decode cX8_set 61 = .ok (.putfield 13, 3) := by decide +kernel
theorem dX8_set_64 : decode cX8_set 64 = .ok (.goto 8, 3) := by decide +kernel
theorem dX8_set_67 : decode cX8_set 67 = .ok (.aload_n 0, 1) := by decide +kernel
theorem dX8_set_68 : decode cX8_set 68 = .ok (.iload_n 2, 1) := by decide +kernel
theorem dX8_set_69 : decode cX8_set 69 = .ok (.putfield 17, 3) := by decide +kernel
theorem dX8_set_72 : decode cX8_set 72 = .ok (.iload_n 3, 1) := by decide +kernel
theorem dX8_set_73 : decode cX8_set 73 = .ok (.ireturn, 1) := by decide +kernel
theorem dX8_shared_0 : decode cX8_shared 0 = .ok (.aload_n 0, 1) := by decide +kernel
theorem dX8_shared_1 : decode cX8_shared 1 = .ok (.iconst 0, 1) := by decide +kernel
theorem dX8_shared_2 : decode cX8_shared 2 = .ok (.putfield 114, 3) := by decide +kernel
theorem dX8_shared_5 : decode cX8_shared 5 = .ok (.aload_n 0, 1) := by decide +kernel
theorem dX8_shared_6 : decode cX8_shared 6 = .ok (.iload_n 1, 1) := by decide +kernel
theorem dX8_shared_7 : decode cX8_shared 7 = .ok (.iload_n 2, 1) := by decide +kernel
theorem dX8_shared_8 : decode cX8_shared 8 = .ok (.invokevirtual 297, 3) := by decide +kernel
theorem dX8_shared_11 : decode cX8_shared 11 = .ok (.ifCond .ne 5, 3) := by decide +kernel
theorem dX8_shared_14 : decode cX8_shared 14 = .ok (.iconst (-1), 1) := by decide +kernel
theorem dX8_shared_15 : decode cX8_shared 15 = .ok (.ireturn, 1) := by decide +kernel
theorem dX8_shared_16 : decode cX8_shared 16 = .ok (.aload_n 0, 1) := by decide +kernel
theorem dX8_shared_17 : decode cX8_shared 17 = .ok (.iconst 0, 1) := by decide +kernel
theorem dX8_shared_18 : decode cX8_shared 18 = .ok (.putfield 117, 3) := by decide +kernel
theorem dX8_shared_21 : decode cX8_shared 21 = .ok (.aload_n 0, 1) := by decide +kernel
theorem dX8_shared_22 : decode cX8_shared 22 = .ok (.sipush 255, 3) := by decide +kernel
theorem dX8_shared_25 : decode cX8_shared 25 = .ok (.aload_n 0, 1) := by decide +kernel
theorem dX8_shared_26 : decode cX8_shared 26 = .ok (.getfield 26, 3) := by decide +kernel
theorem dX8_shared_29 : decode cX8_shared 29 = .ok (.iload_n 1, 1) := by decide +kernel
theorem dX8_shared_30 : decode cX8_shared 30 = .ok (.iaload, 1) := by decide +kernel
theorem dX8_shared_31 : decode cX8_shared 31 = .ok (.aload_n 0, 1) := by decide +kernel
theorem dX8_shared_32 : decode cX8_shared 32 = .ok (.getfield 26, 3) := by decide +kernel
theorem dX8_shared_35 : decode cX8_shared 35 = .ok (.iload_n 2, 1) := by decide +kernel
theorem dX8_shared_36 : decode cX8_shared 36 = .ok (.iaload, 1) := by decide +kernel
theorem dX8_shared_37 : decode cX8_shared 37 = .ok (.ior, 1) := by decide +kernel
theorem dX8_shared_38 : decode cX8_shared 38 = .ok (.iconst (-1), 1) := by decide +kernel
theorem dX8_shared_39 : decode cX8_shared 39 = .ok (.ixor, 1) := by decide +kernel
theorem dX8_shared_40 : decode cX8_shared 40 = .ok (.iand, 1) := by decide +kernel
theorem dX8_shared_41 : decode cX8_shared 41 = .ok (.i2l, 1) := by decide +kernel
theorem dX8_shared_42 : decode cX8_shared 42 = .ok (.invokevirtual 284, 3) := by decide +kernel
theorem dX8_shared_45 : decode cX8_shared 45 = .ok (.aload_n 0, 1) := by decide +kernel
theorem dX8_shared_46 : decode cX8_shared 46 = .ok (.getfield 26, 3) := by decide +kernel
theorem dX8_shared_49 : decode cX8_shared 49 = .ok (.iload_n 1, 1) := by decide +kernel
theorem dX8_shared_50 : decode cX8_shared 50 = .ok (.iaload, 1) := by decide +kernel
theorem dX8_shared_51 : decode cX8_shared 51 = .ok (.aload_n 0, 1) := by decide +kernel
theorem dX8_shared_52 : decode cX8_shared 52 = .ok (.getfield 26, 3) := by decide +kernel
theorem dX8_shared_55 : decode cX8_shared 55 = .ok (.iload_n 2, 1) := by decide +kernel
theorem dX8_shared_56 : decode cX8_shared 56 = .ok (.iaload, 1) := by decide +kernel
theorem dX8_shared_57 : decode cX8_shared 57 = .ok (.iand, 1) := by decide +kernel
theorem dX8_shared_58 : decode cX8_shared 58 = .ok (.ireturn, 1) := by decide +kernel
theorem dX8_sheet_0 : decode cX8_sheet 0 = .ok (.aload_n 0, 1) := by decide +kernel
theorem dX8_sheet_1 : decode cX8_sheet 1 = .ok (.iconst 0, 1) := by decide +kernel
theorem dX8_sheet_2 : decode cX8_sheet 2 = .ok (.putfield 114, 3) := by decide +kernel
theorem dX8_sheet_5 : decode cX8_sheet 5 = .ok (.iload_n 1, 1) := by decide +kernel
theorem dX8_sheet_6 : decode cX8_sheet 6 = .ok (.iconst 0, 1) := by decide +kernel
theorem dX8_sheet_7 : decode cX8_sheet 7 = .ok (.iconst 3, 1) := by decide +kernel
theorem dX8_sheet_8 : decode cX8_sheet 8 = .ok (.invokestatic 123, 3) := by decide +kernel
theorem dX8_sheet_11 : decode cX8_sheet 11 = .ok (.ifCond .eq 9, 3) := by decide +kernel
theorem dX8_sheet_14 : decode cX8_sheet 14 = .ok (.iload_n 2, 1) := by decide +kernel
theorem dX8_sheet_15 : decode cX8_sheet 15 = .ok (.bipush 8, 2) := by decide +kernel
theorem dX8_sheet_17 : decode cX8_sheet 17 = .ok (.if_icmp .le 5, 3) := by decide +kernel
theorem dX8_sheet_20 : decode cX8_sheet 20 = .ok (.iconst (-1), 1) := by decide +kernel
theorem dX8_sheet_21 : decode cX8_sheet 21 = .ok (.ireturn, 1) := by decide +kernel
theorem dX8_sheet_22 : decode cX8_sheet 22 = .ok (.iload_n 1, 1) := by decide +kernel
theorem dX8_sheet_23 : decode cX8_sheet 23 = .ok (.iconst 3, 1) := by decide +kernel
theorem dX8_sheet_24 : decode cX8_sheet 24 = .ok (.if_icmp .ge 10, 3) := by decide +kernel
theorem dX8_sheet_27 : decode cX8_sheet 27 = .ok (.iload_n 2, 1) := by decide +kernel
theorem dX8_sheet_28 : decode cX8_sheet 28 = .ok (.ifCond .ge 6, 3) := by decide +kernel
theorem dX8_sheet_31 : decode cX8_sheet 31 = .ok (.bipush (-2), 2) := by decide +kernel
theorem dX8_sheet_33 : decode cX8_sheet 33 = .ok (.ireturn, 1) := by decide +kernel
theorem dX8_sheet_34 : decode cX8_sheet 34 = .ok (.iconst 0, 1) := by decide +kernel
theorem dX8_sheet_35 : decode cX8_sheet 35 = .ok (.istore 5, 2) := by decide +kernel
theorem dX8_sheet_37 : decode cX8_sheet 37 = .ok (.iload_n 3, 1) := by decide +kernel
theorem dX8_sheet_38 : decode cX8_sheet 38 = .ok (.istore 6, 2) := by decide +kernel
theorem dX8_sheet_40 : decode cX8_sheet 40 = .ok (.iconst 0, 1) := by decide +kernel
theorem dX8_sheet_41 : decode cX8_sheet 41 = .ok (.istore 7, 2) := by decide +kernel
theorem dX8_sheet_43 : decode cX8_sheet 43 = .ok (.iload 7, 2) := by decide +kernel
theorem dX8_sheet_45 : decode cX8_sheet 45 = .ok (.aload_n 0, 1) := by decide +kernel
theorem dX8_sheet_46 : decode cX8_sheet 46 = .ok (.getfield 120, 3) := by decide +kernel
theorem dX8_sheet_49 : decode cX8_sheet 49 = .ok (.if_icmp .ge 92, 3) := by decide +kernel
theorem dX8_sheet_52 : decode cX8_sheet 52 = .ok (.iload_n 1, 1) := by decide +kernel
theorem dX8_sheet_53 : decode cX8_sheet 53 = .ok (.ifCond .ne 9, 3) := by decide +kernel
theorem dX8_sheet_56 : decode cX8_sheet 56 = .ok (.iload 6, 2) := by decide +kernel
theorem dX8_sheet_58 : decode cX8_sheet 58 = .ok (.i2b, 1) := by decide +kernel
theorem dX8_sheet_59 : decode cX8_sheet 59 = .ok (.goto 16, 3) := by decide +kernel
theorem dX8_sheet_62 : decode cX8_sheet 62 = .ok (.iload_n 1, 1) := by decide +kernel
theorem dX8_sheet_63 : decode cX8_sheet 63 = .ok (.iconst 1, 1) := by decide +kernel
theorem dX8_sheet_64 : decode cX8_sheet 64 = .ok (.if_icmp .ne 9, 3) := by decide +kernel
theorem dX8_sheet_67 : decode cX8_sheet 67 = .ok (.iload 6, 2) := by decide +kernel
theorem dX8_sheet_69 : decode cX8_sheet 69 = .ok (.i2s, 1) := by decide +kernel
theorem dX8_sheet_70 : decode cX8_sheet 70 = .ok (.goto 5, 3) := by decide +kernel
theorem dX8_sheet_73 : decode cX8_sheet 73 = .ok (.iload 6, 2) := by decide +kernel
theorem dX8_sheet_75 : decode cX8_sheet 75 = .ok (.istore 8, 2) := by decide +kernel
theorem dX8_sheet_77 : decode cX8_sheet 77 = .ok (.aload_n 0, 1) := by decide +kernel
theorem dX8_sheet_78 : decode cX8_sheet 78 = .ok (.getfield 9, 3) := by decide +kernel
theorem dX8_sheet_81 : decode cX8_sheet 81 = .ok (.bipush 8, 2) := by decide +kernel
theorem dX8_sheet_83 : decode cX8_sheet 83 = .ok (.iload 7, 2) := by decide +kernel
theorem dX8_sheet_85 : decode cX8_sheet 85 = .ok (.iadd, 1) := by decide +kernel
theorem dX8_sheet_86 : decode cX8_sheet 86 = .ok (.iload_n 1, 1) := by decide +kernel
theorem dX8_sheet_87 : decode cX8_sheet 87 = .ok (.iconst 3, 1) := by decide +kernel
theorem dX8_sheet_88 : decode cX8_sheet 88 = .ok (.if_icmp .eq 9, 3) := by decide +kernel
theorem dX8_sheet_91 : decode cX8_sheet 91 = .ok (.iload 7, 2) := by decide +kernel
theorem dX8_sheet_93 : decode cX8_sheet 93 = .ok (.iload_n 2, 1) := by decide +kernel
theorem dX8_sheet_94 : decode cX8_sheet 94 = .ok (.if_icmp .lt 7, 3) := by decide +kernel
theorem dX8_sheet_97 : decode cX8_sheet 97 = .ok (.iconst 0, 1) := by decide +kernel
theorem dX8_sheet_98 : decode cX8_sheet 98 = .ok (.goto 14, 3) := by decide +kernel
theorem dX8_sheet_101 : decode cX8_sheet 101 = .ok (.iconst 0, 1) := by decide +kernel
theorem dX8_sheet_102 : decode cX8_sheet 102 = .ok (.bipush 99, 2) := by decide +kernel
theorem dX8_sheet_104 : decode cX8_sheet 104 = .ok (.iload 8, 2) := by decide +kernel
theorem dX8_sheet_106 : decode cX8_sheet 106 = .ok (.invokestatic 226, 3) := by decide +kernel
theorem dX8_sheet_109 : decode cX8_sheet 109 = .ok (.invokestatic 232, 3) := by decide +kernel
theorem dX8_sheet_112 : decode cX8_sheet 112 = .ok (.iastore, 1) := by decide +kernel
theorem dX8_sheet_113 : decode cX8_sheet 113 = .ok (.iload 5, 2) := by decide +kernel
theorem dX8_sheet_115 : decode cX8_sheet 115 = .ok (.aload_n 0, 1) := by decide +kernel
theorem dX8_sheet_116 : decode cX8_sheet 116 = .ok (.getfield 9, 3) := by decide +kernel
theorem dX8_sheet_119 : decode cX8_sheet 119 = .ok (.bipush 8, 2) := by decide +kernel
theorem dX8_sheet_121 : decode cX8_sheet 121 = .ok (.iload 7, 2) := by decide +kernel
theorem dX8_sheet_123 : decode cX8_sheet 123 = .ok (.iadd, 1) := by decide +kernel
theorem dX8_sheet_124 : decode cX8_sheet 124 = .ok (.iaload, 1) := by decide +kernel
theorem dX8_sheet_125 : decode cX8_sheet 125 = .ok (.iadd, 1) := by decide +kernel
theorem dX8_sheet_126 : decode cX8_sheet 126 = .ok (.istore 5, 2) := by decide +kernel
theorem dX8_sheet_128 : decode cX8_sheet 128 = .ok (.iload 6, 2) := by decide +kernel
theorem dX8_sheet_130 : decode cX8_sheet 130 = .ok (.iload 4, 2) := by decide +kernel
theorem dX8_sheet_132 : decode cX8_sheet 132 = .ok (.iadd, 1) := by decide +kernel
theorem dX8_sheet_133 : decode cX8_sheet 133 = .ok (.istore 6, 2) := by decide +kernel
theorem dX8_sheet_135 : decode cX8_sheet 135 = .ok (.iinc 7 1, 3) := by decide +kernel
theorem dX8_sheet_138 : decode cX8_sheet 138 = .ok (.goto (-95), 3) := by decide +kernel
theorem dX8_sheet_141 : decode cX8_sheet 141 = .ok (.iload_n 1, 1) := by decide +kernel
theorem dX8_sheet_142 : decode cX8_sheet 142 = .ok (.iconst 3, 1) := by decide +kernel
theorem dX8_sheet_143 : decode cX8_sheet 143 = .ok (.if_icmp .ne 8, 3) := by decide +kernel
theorem dX8_sheet_146 : decode cX8_sheet 146 = .ok (.bipush (-3), 2) := by decide +kernel
theorem dX8_sheet_148 : decode cX8_sheet 148 = .ok (.goto 5, 3) := by decide +kernel
theorem dX8_sheet_151 : decode cX8_sheet 151 = .ok (.iload 5, 2) := by decide +kernel
theorem dX8_sheet_153 : decode cX8_sheet 153 = .ok (.ireturn, 1) := by decide +kernel
theorem dX8_sign_0 : decode cX8_sign 0 = .ok (.aload_n 0, 1) := by decide +kernel
theorem dX8_sign_1 : decode cX8_sign 1 = .ok (.iconst 0, 1) := by decide +kernel
theorem dX8_sign_2 : decode cX8_sign 2 = .ok (.putfield 114, 3) := by decide +kernel
theorem dX8_sign_5 : decode cX8_sign 5 = .ok (.aload_n 0, 1) := by decide +kernel
theorem dX8_sign_6 : decode cX8_sign 6 = .ok (.getfield 131, 3) := by decide +kernel
theorem dX8_sign_9 : decode cX8_sign 9 = .ok (.iconst 4, 1) := by decide +kernel
theorem dX8_sign_10 : decode cX8_sign 10 = .ok (.iadd, 1) := by decide +kernel
theorem dX8_sign_11 : decode cX8_sign 11 = .ok (.bipush 80, 2) := by decide +kernel
theorem dX8_sign_13 : decode cX8_sign 13 = .ok (.if_icmp .le 5, 3) := by decide +kernel
theorem dX8_sign_16 : decode cX8_sign 16 = .ok (.iconst (-1), 1) := by decide +kernel
theorem dX8_sign_17 : decode cX8_sign 17 = .ok (.ireturn, 1) := by decide +kernel
theorem dX8_sign_18 : decode cX8_sign 18 = .ok (.iconst 3, 1) := by decide +kernel
theorem dX8_sign_19 : decode cX8_sign 19 = .ok (.istore_n 2, 1) := by decide +kernel
theorem dX8_sign_20 : decode cX8_sign 20 = .ok (.iload_n 2, 1) := by decide +kernel
theorem dX8_sign_21 : decode cX8_sign 21 = .ok (.ifCond .lt 32, 3) := by decide +kernel
theorem dX8_sign_24 : decode cX8_sign 24 = .ok (.aload_n 0, 1) := by decide +kernel
theorem dX8_sign_25 : decode cX8_sign 25 = .ok (.getfield 29, 3) := by decide +kernel
theorem dX8_sign_28 : decode cX8_sign 28 = .ok (.aload_n 0, 1) := by decide +kernel
theorem dX8_sign_29 : decode cX8_sign 29 = .ok (.dup, 1) := by decide +kernel
theorem dX8_sign_30 : decode cX8_sign 30 = .ok (.getfield 131, 3) := by decide +kernel
theorem dX8_sign_33 : decode cX8_sign 33 = .ok (.dup_x1, 1) := by decide +kernel
theorem dX8_sign_34 : decode cX8_sign 34 = .ok (.iconst 1, 1) := by decide +kernel
theorem dX8_sign_35 : decode cX8_sign 35 = .ok (.iadd, 1) := by decide +kernel
theorem dX8_sign_36 : decode cX8_sign 36 = .ok (.putfield 131, 3) := by decide +kernel
theorem dX8_sign_39 : decode cX8_sign 39 = .ok (.iload_n 1, 1) := by decide +kernel
theorem dX8_sign_40 : decode cX8_sign 40 = .ok (.bipush 8, 2) := by decide +kernel
theorem dX8_sign_42 : decode cX8_sign 42 = .ok (.iload_n 2, 1) := by decide +kernel
theorem dX8_sign_43 : decode cX8_sign 43 = .ok (.imul, 1) := by decide +kernel
theorem dX8_sign_44 : decode cX8_sign 44 = .ok (.ishr, 1) := by decide +kernel
theorem dX8_sign_45 : decode cX8_sign 45 = .ok (.i2b, 1) := by decide +kernel
theorem dX8_sign_46 : decode cX8_sign 46 = .ok (.bastore, 1) := by decide +kernel
theorem dX8_sign_47 : decode cX8_sign 47 = .ok (.iinc 2 (-1), 3) := by decide +kernel
theorem dX8_sign_50 : decode cX8_sign 50 = .ok (.goto (-30), 3) := by decide +kernel
theorem dX8_sign_53 : decode cX8_sign 53 = .ok (.aload_n 0, 1) := by decide +kernel
theorem dX8_sign_54 : decode cX8_sign 54 = .ok (.getfield 131, 3) := by decide +kernel
theorem dX8_sign_57 : decode cX8_sign 57 = .ok (.ireturn, 1) := by decide +kernel
theorem dX8_smoothest_0 : decode cX8_smoothest 0 = .ok (.aload_n 0, 1) := by decide +kernel
theorem dX8_smoothest_1 : decode cX8_smoothest 1 = .ok (.iconst 0, 1) := by decide +kernel
theorem dX8_smoothest_2 : decode cX8_smoothest 2 = .ok (.putfield 114, 3) := by decide +kernel
theorem dX8_smoothest_5 : decode cX8_smoothest 5 = .ok (.aload_n 0, 1) := by decide +kernel
theorem dX8_smoothest_6 : decode cX8_smoothest 6 = .ok (.iconst (-1), 1) := by decide +kernel
theorem dX8_smoothest_7 : decode cX8_smoothest 7 = .ok (.invokevirtual 335, 3) := by decide +kernel
theorem dX8_smoothest_10 : decode cX8_smoothest 10 = .ok (.aload_n 0, 1) := by decide +kernel
theorem dX8_smoothest_11 : decode cX8_smoothest 11 = .ok (.iconst 2, 1) := by decide +kernel
theorem dX8_smoothest_12 : decode cX8_smoothest 12 = .ok (.invokevirtual 329, 3) := by decide +kernel
theorem dX8_smoothest_15 : decode cX8_smoothest 15 = .ok (.ldc 88, 2) := by decide +kernel
theorem dX8_smoothest_17 : decode cX8_smoothest 17 = .ok (.if_icmp .ne 6, 3) := by decide +kernel
theorem dX8_smoothest_20 : decode cX8_smoothest 20 = .ok (.bipush (-2), 2) := by decide +kernel
theorem dX8_smoothest_22 : decode cX8_smoothest 22 = .ok (.ireturn, 1) := by decide +kernel
theorem dX8_smoothest_23 : decode cX8_smoothest 23 = .ok (.iconst 0, 1) := by decide +kernel
theorem dX8_smoothest_24 : decode cX8_smoothest 24 = .ok (.istore_n 1, 1) := by decide +kernel
theorem dX8_smoothest_25 : decode cX8_smoothest 25 = .ok (.iload_n 1, 1) := by decide +kernel
theorem dX8_smoothest_26 : decode cX8_smoothest 26 = .ok (.bipush 8, 2) := by decide +kernel
theorem dX8_smoothest_28 : decode cX8_smoothest 28 = .ok (.if_icmp .ge 16, 3) := by decide +kernel
theorem dX8_smoothest_31 : decode cX8_smoothest 31 = .ok (.aload_n 0, 1) := by decide +kernel
theorem dX8_smoothest_32 : decode cX8_smoothest 32 = .ok (.getfield 58, 3) := by decide +kernel
theorem dX8_smoothest_35 : decode cX8_smoothest 35 = .ok (.iload_n 1, 1) := by decide +kernel
theorem dX8_smoothest_36 : decode cX8_smoothest 36 = .ok (.iconst 0, 1) := by decide +kernel
theorem dX8_smoothest_37 : decode cX8_smoothest 37 = .ok (.iastore, 1) := by decide +kernel
theorem dX8_smoothest_38 : decode cX8_smoothest 38 = .ok (.iinc 1 1, 3) := by decide +kernel
theorem dX8_smoothest_41 : decode cX8_smoothest 41 = .ok (.goto (-16), 3) := by decide +kernel
theorem dX8_smoothest_44 : decode cX8_smoothest 44 = .ok (.iconst 0, 1) := by decide +kernel
theorem dX8_smoothest_45 : decode cX8_smoothest 45 = .ok (.istore_n 1, 1) := by decide +kernel
theorem dX8_smoothest_46 : decode cX8_smoothest 46 = .ok (.aload_n 0, 1) := by decide +kernel
theorem dX8_smoothest_47 : decode cX8_smoothest 47 = .ok (.iconst 0, 1) := by decide +kernel
theorem dX8_smoothest_48 : decode cX8_smoothest 48 = .ok (.iload_n 1, 1) := by decide +kernel
theorem dX8_smoothest_49 : decode cX8_smoothest 49 = .ok (.invokevirtual 359, 3) := by decide +kernel
theorem dX8_smoothest_52 : decode cX8_smoothest 52 = .ok (.ifCond .ne 9, 3) := by decide +kernel
theorem dX8_smoothest_55 : decode cX8_smoothest 55 = .ok (.iinc 1 1, 3) := by decide +kernel
theorem dX8_smoothest_58 : decode cX8_smoothest 58 = .ok (.goto (-12), 3) := by decide +kernel
theorem dX8_smoothest_61 : decode cX8_smoothest 61 = .ok (.aload_n 0, 1) := by decide +kernel
theorem dX8_smoothest_62 : decode cX8_smoothest 62 = .ok (.invokevirtual 344, 3) := by decide +kernel
theorem dX8_smoothest_65 : decode cX8_smoothest 65 = .ok (.iload_n 1, 1) := by decide +kernel
theorem dX8_smoothest_66 : decode cX8_smoothest 66 = .ok (.ireturn, 1) := by decide +kernel
theorem dX8_solve_0 : decode cX8_solve 0 = .ok (.iconst 0, 1) := by decide +kernel
theorem dX8_solve_1 : decode cX8_solve 1 = .ok (.istore_n 2, 1) := by decide +kernel
theorem dX8_solve_2 : decode cX8_solve 2 = .ok (.iload_n 2, 1) := by decide +kernel
theorem dX8_solve_3 : decode cX8_solve 3 = .ok (.aload_n 0, 1) := by decide +kernel
theorem dX8_solve_4 : decode cX8_solve 4 = .ok (.invokevirtual 307, 3) := by decide +kernel
theorem dX8_solve_7 : decode cX8_solve 7 = .ok (.if_icmp .gt 33, 3) := by decide +kernel
theorem dX8_solve_10 : decode cX8_solve 10 = .ok (.aload_n 0, 1) := by decide +kernel
theorem dX8_solve_11 : decode cX8_solve 11 = .ok (.getfield 82, 3) := by decide +kernel
theorem dX8_solve_14 : decode cX8_solve 14 = .ok (.aload_n 0, 1) := by decide +kernel
theorem dX8_solve_15 : decode cX8_solve 15 = .ok (.getfield 120, 3) := by decide +kernel
theorem dX8_solve_18 : decode cX8_solve 18 = .ok (.bipush 8, 2) := by decide +kernel
theorem dX8_solve_20 : decode cX8_solve 20 = .ok (.ishl, 1) := by decide +kernel
theorem dX8_solve_21 : decode cX8_solve 21 = .ok (.iload_n 2, 1) := by decide +kernel
theorem dX8_solve_22 : decode cX8_solve 22 = .ok (.ior, 1) := by decide +kernel
theorem dX8_solve_23 : decode cX8_solve 23 = .ok (.iload_n 2, 1) := by decide +kernel
theorem dX8_solve_24 : decode cX8_solve 24 = .ok (.ifCond .ne 7, 3) := by decide +kernel
theorem dX8_solve_27 : decode cX8_solve 27 = .ok (.iconst 0, 1) := by decide +kernel
theorem dX8_solve_28 : decode cX8_solve 28 = .ok (.goto 5, 3) := by decide +kernel
theorem dX8_solve_31 : decode cX8_solve 31 = .ok (.ldc 88, 2) := by decide +kernel
theorem dX8_solve_33 : decode cX8_solve 33 = .ok (.iastore, 1) := by decide +kernel
theorem dX8_solve_34 : decode cX8_solve 34 = .ok (.iinc 2 1, 3) := by decide +kernel
theorem dX8_solve_37 : decode cX8_solve 37 = .ok (.goto (-35), 3) := by decide +kernel
theorem dX8_solve_40 : decode cX8_solve 40 = .ok (.aload_n 0, 1) := by decide +kernel
theorem dX8_solve_41 : decode cX8_solve 41 = .ok (.getfield 120, 3) := by decide +kernel
theorem dX8_solve_44 : decode cX8_solve 44 = .ok (.iconst 1, 1) := by decide +kernel
theorem dX8_solve_45 : decode cX8_solve 45 = .ok (.isub, 1) := by decide +kernel
theorem dX8_solve_46 : decode cX8_solve 46 = .ok (.istore_n 2, 1) := by decide +kernel
theorem dX8_solve_47 : decode cX8_solve 47 = .ok (.iload_n 2, 1) := by decide +kernel
theorem dX8_solve_48 : decode cX8_solve 48 = .ok (.ifCond .lt 191, 3) := by decide +kernel
theorem dX8_solve_51 : decode cX8_solve 51 = .ok (.iconst 0, 1) := by decide +kernel
theorem dX8_solve_52 : decode cX8_solve 52 = .ok (.istore_n 3, 1) := by decide +kernel
theorem dX8_solve_53 : decode cX8_solve 53 = .ok (.iload_n 3, 1) := by decide +kernel
theorem dX8_solve_54 : decode cX8_solve 54 = .ok (.aload_n 0, 1) := by decide +kernel
theorem dX8_solve_55 : decode cX8_solve 55 = .ok (.invokevirtual 307, 3) := by decide +kernel
theorem dX8_solve_58 : decode cX8_solve 58 = .ok (.if_icmp .gt 22, 3) := by decide +kernel
theorem dX8_solve_61 : decode cX8_solve 61 = .ok (.aload_n 0, 1) := by decide +kernel
theorem dX8_solve_62 : decode cX8_solve 62 = .ok (.getfield 82, 3) := by decide +kernel
theorem dX8_solve_65 : decode cX8_solve 65 = .ok (.iload_n 2, 1) := by decide +kernel
theorem dX8_solve_66 : decode cX8_solve 66 = .ok (.bipush 8, 2) := by decide +kernel
theorem dX8_solve_68 : decode cX8_solve 68 = .ok (.ishl, 1) := by decide +kernel
theorem dX8_solve_69 : decode cX8_solve 69 = .ok (.iload_n 3, 1) := by decide +kernel
theorem dX8_solve_70 : decode cX8_solve 70 = .ok (.ior, 1) := by decide +kernel
theorem dX8_solve_71 : decode cX8_solve 71 = .ok (.ldc 88, 2) := by decide +kernel
theorem dX8_solve_73 : decode cX8_solve 73 = .ok (.iastore, 1) := by decide +kernel
theorem dX8_solve_74 : decode cX8_solve 74 = .ok (.iinc 3 1, 3) := by decide +kernel
theorem dX8_solve_77 : decode cX8_solve 77 = .ok (.goto (-24), 3) := by decide +kernel
theorem dX8_solve_80 : decode cX8_solve 80 = .ok (.aload_n 0, 1) := by decide +kernel
theorem dX8_solve_81 : decode cX8_solve 81 = .ok (.getfield 67, 3) := by decide +kernel
theorem dX8_solve_84 : decode cX8_solve 84 = .ok (.iload_n 2, 1) := by decide +kernel
theorem dX8_solve_85 : decode cX8_solve 85 = .ok (.iaload, 1) := by decide +kernel
theorem dX8_solve_86 : decode cX8_solve 86 = .ok (.istore_n 3, 1) := by decide +kernel
theorem dX8_solve_87 : decode cX8_solve 87 = .ok (.iload_n 3, 1) := by decide +kernel
theorem dX8_solve_88 : decode cX8_solve 88 = .ok (.ifCond .lt 145, 3) := by decide +kernel
theorem dX8_solve_91 : decode cX8_solve 91 = .ok (.aload_n 0, 1) := by decide +kernel
theorem dX8_solve_92 : decode cX8_solve 92 = .ok (.iload_n 2, 1) := by decide +kernel
theorem dX8_solve_93 : decode cX8_solve 93 = .ok (.iload_n 3, 1) := by decide +kernel
theorem dX8_solve_94 : decode cX8_solve 94 = .ok (.invokevirtual 313, 3) := by decide +kernel
theorem dX8_solve_97 : decode cX8_solve 97 = .ok (.ifCond .ne 6, 3) := by decide +kernel
theorem dX8_solve_100 : decode cX8_solve 100 = .ok (.goto 111, 3) := by decide +kernel
theorem dX8_solve_103 : decode cX8_solve 103 = .ok (.aload_n 0, 1) := by decide +kernel
theorem dX8_solve_104 : decode cX8_solve 104 = .ok (.iload_n 1, 1) := by decide +kernel
theorem dX8_solve_105 : decode cX8_solve 105 = .ok (.iload_n 2, 1) := by decide +kernel
theorem dX8_solve_106 : decode cX8_solve 106 = .ok (.iload_n 3, 1) := by decide +kernel
theorem dX8_solve_107 : decode cX8_solve 107 = .ok (.invokevirtual 316, 3) := by decide +kernel
theorem dX8_solve_110 : decode cX8_solve 110 = .ok (.istore 4, 2) := by decide +kernel
theorem dX8_solve_112 : decode cX8_solve 112 = .ok (.aload_n 0, 1) := by decide +kernel
theorem dX8_solve_113 : decode cX8_solve 113 = .ok (.invokevirtual 307, 3) := by decide +kernel
theorem dX8_solve_116 : decode cX8_solve 116 = .ok (.iload_n 3, 1) := by decide +kernel
theorem dX8_solve_117 : decode cX8_solve 117 = .ok (.iconst (-1), 1) := by decide +kernel
theorem dX8_solve_118 : decode cX8_solve 118 = .ok (.ixor, 1) := by decide +kernel
theorem dX8_solve_119 : decode cX8_solve 119 = .ok (.iand, 1) := by decide +kernel
theorem dX8_solve_120 : decode cX8_solve 120 = .ok (.istore 5, 2) := by decide +kernel
theorem dX8_solve_122 : decode cX8_solve 122 = .ok (.iload 5, 2) := by decide +kernel
theorem dX8_solve_124 : decode cX8_solve 124 = .ok (.istore 6, 2) := by decide +kernel
theorem dX8_solve_126 : decode cX8_solve 126 = .ok (.iload 6, 2) := by decide +kernel
theorem dX8_solve_128 : decode cX8_solve 128 = .ok (.ifCond .lt 83, 3) := by decide +kernel
theorem dX8_solve_131 : decode cX8_solve 131 = .ok (.aload_n 0, 1) := by decide +kernel
theorem dX8_solve_132 : decode cX8_solve 132 = .ok (.getfield 82, 3) := by decide +kernel
theorem dX8_solve_135 : decode cX8_solve 135 = .ok (.iload_n 2, 1) := by decide +kernel
theorem dX8_solve_136 : decode cX8_solve 136 = .ok (.iconst 1, 1) := by decide +kernel
theorem dX8_solve_137 : decode cX8_solve 137 = .ok (.iadd, 1) := by decide +kernel
theorem dX8_solve_138 : decode cX8_solve 138 = .ok (.bipush 8, 2) := by decide +kernel
theorem dX8_solve_140 : decode cX8_solve 140 = .ok (.ishl, 1) := by decide +kernel
theorem dX8_solve_141 : decode cX8_solve 141 = .ok (.iload 6, 2) := by decide +kernel
theorem dX8_solve_143 : decode cX8_solve 143 = .ok (.ior, 1) := by decide +kernel
theorem dX8_solve_144 : decode cX8_solve 144 = .ok (.iaload, 1) := by decide +kernel
theorem dX8_solve_145 : decode cX8_solve 145 = .ok (.istore 7, 2) := by decide +kernel
theorem dX8_solve_147 : decode cX8_solve 147 = .ok (.iload 7, 2) := by decide +kernel
theorem dX8_solve_149 : decode cX8_solve 149 = .ok (.ldc 88, 2) := by decide +kernel
theorem dX8_solve_151 : decode cX8_solve 151 = .ok (.if_icmp .ge 39, 3) := by decide +kernel
theorem dX8_solve_154 : decode cX8_solve 154 = .ok (.aload_n 0, 1) := by decide +kernel
theorem dX8_solve_155 : decode cX8_solve 155 = .ok (.getfield 82, 3) := by decide +kernel
theorem dX8_solve_158 : decode cX8_solve 158 = .ok (.iload_n 2, 1) := by decide +kernel
theorem dX8_solve_159 : decode cX8_solve 159 = .ok (.bipush 8, 2) := by decide +kernel
theorem dX8_solve_161 : decode cX8_solve 161 = .ok (.ishl, 1) := by decide +kernel
theorem dX8_solve_162 : decode cX8_solve 162 = .ok (.iload 6, 2) := by decide +kernel
theorem dX8_solve_164 : decode cX8_solve 164 = .ok (.ior, 1) := by decide +kernel
theorem dX8_solve_165 : decode cX8_solve 165 = .ok (.iload_n 3, 1) := by decide +kernel
theorem dX8_solve_166 : decode cX8_solve 166 = .ok (.ior, 1) := by decide +kernel
theorem dX8_solve_167 : decode cX8_solve 167 = .ok (.aload_n 0, 1) := by decide +kernel
theorem dX8_solve_168 : decode cX8_solve 168 = .ok (.getfield 82, 3) := by decide +kernel
theorem dX8_solve_171 : decode cX8_solve 171 = .ok (.iload_n 2, 1) := by decide +kernel
theorem dX8_solve_172 : decode cX8_solve 172 = .ok (.bipush 8, 2) := by decide +kernel
theorem dX8_solve_174 : decode cX8_solve 174 = .ok (.ishl, 1) := by decide +kernel
theorem dX8_solve_175 : decode cX8_solve 175 = .ok (.iload 6, 2) := by decide +kernel
theorem dX8_solve_177 : decode cX8_solve 177 = .ok (.ior, 1) := by decide +kernel
theorem dX8_solve_178 : decode cX8_solve 178 = .ok (.iload_n 3, 1) := by decide +kernel
theorem dX8_solve_179 : decode cX8_solve 179 = .ok (.ior, 1) := by decide +kernel
theorem dX8_solve_180 : decode cX8_solve 180 = .ok (.iaload, 1) := by decide +kernel
theorem dX8_solve_181 : decode cX8_solve 181 = .ok (.iload 7, 2) := by decide +kernel
theorem dX8_solve_183 : decode cX8_solve 183 = .ok (.iload 4, 2) := by decide +kernel
theorem dX8_solve_185 : decode cX8_solve 185 = .ok (.iadd, 1) := by decide +kernel
theorem dX8_solve_186 : decode cX8_solve 186 = .ok (.invokestatic 226, 3) := by decide +kernel
theorem dX8_solve_189 : decode cX8_solve 189 = .ok (.iastore, 1) := by decide +kernel
theorem dX8_solve_190 : decode cX8_solve 190 = .ok (.iload 6, 2) := by decide +kernel
theorem dX8_solve_192 : decode cX8_solve 192 = .ok (.ifCond .ne 7, 3) := by decide +kernel
theorem dX8_solve_195 : decode cX8_solve 195 = .ok (.iconst (-1), 1) := by decide +kernel
theorem dX8_solve_196 : decode cX8_solve 196 = .ok (.goto 10, 3) := by decide +kernel
theorem dX8_solve_199 : decode cX8_solve 199 = .ok (.iload 6, 2) := by decide +kernel
theorem dX8_solve_201 : decode cX8_solve 201 = .ok (.iconst 1, 1) := by decide +kernel
theorem dX8_solve_202 : decode cX8_solve 202 = .ok (.isub, 1) := by decide +kernel
theorem dX8_solve_203 : decode cX8_solve 203 = .ok (.iload 5, 2) := by decide +kernel
theorem dX8_solve_205 : decode cX8_solve 205 = .ok (.iand, 1) := by decide +kernel
theorem dX8_solve_206 : decode cX8_solve 206 = .ok (.istore 6, 2) := by decide +kernel
theorem dX8_solve_208 : decode cX8_solve 208 = .ok (.goto (-82), 3) := by decide +kernel
theorem dX8_solve_211 : decode cX8_solve 211 = .ok (.iload_n 3, 1) := by decide +kernel
theorem dX8_solve_212 : decode cX8_solve 212 = .ok (.ifCond .ne 7, 3) := by decide +kernel
theorem dX8_solve_215 : decode cX8_solve 215 = .ok (.iconst (-1), 1) := by decide +kernel
theorem dX8_solve_216 : decode cX8_solve 216 = .ok (.goto 13, 3) := by decide +kernel
theorem dX8_solve_219 : decode cX8_solve 219 = .ok (.iload_n 3, 1) := by decide +kernel
theorem dX8_solve_220 : decode cX8_solve 220 = .ok (.iconst 1, 1) := by decide +kernel
theorem dX8_solve_221 : decode cX8_solve 221 = .ok (.isub, 1) := by decide +kernel
theorem dX8_solve_222 : decode cX8_solve 222 = .ok (.aload_n 0, 1) := by decide +kernel
theorem dX8_solve_223 : decode cX8_solve 223 = .ok (.getfield 67, 3) := by decide +kernel
theorem dX8_solve_226 : decode cX8_solve 226 = .ok (.iload_n 2, 1) := by decide +kernel
theorem dX8_solve_227 : decode cX8_solve 227 = .ok (.iaload, 1) := by decide +kernel
theorem dX8_solve_228 : decode cX8_solve 228 = .ok (.iand, 1) := by decide +kernel
theorem dX8_solve_229 : decode cX8_solve 229 = .ok (.istore_n 3, 1) := by decide +kernel
theorem dX8_solve_230 : decode cX8_solve 230 = .ok (.goto (-143), 3) := by decide +kernel
theorem dX8_solve_233 : decode cX8_solve 233 = .ok (.iinc 2 (-1), 3) := by decide +kernel
theorem dX8_solve_236 : decode cX8_solve 236 = .ok (.goto (-189), 3) := by decide +kernel
theorem dX8_solve_239 : decode cX8_solve 239 = .ok (.aload_n 0, 1) := by decide +kernel
theorem dX8_solve_240 : decode cX8_solve 240 = .ok (.getfield 82, 3) := by decide +kernel
theorem dX8_solve_243 : decode cX8_solve 243 = .ok (.aload_n 0, 1) := by decide +kernel
theorem dX8_solve_244 : decode cX8_solve 244 = .ok (.invokevirtual 307, 3) := by decide +kernel
theorem dX8_solve_247 : decode cX8_solve 247 = .ok (.iaload, 1) := by decide +kernel
theorem dX8_solve_248 : decode cX8_solve 248 = .ok (.ireturn, 1) := by decide +kernel
theorem dX8_spent_0 : decode cX8_spent 0 = .ok (.aload_n 0, 1) := by decide +kernel
theorem dX8_spent_1 : decode cX8_spent 1 = .ok (.iconst 0, 1) := by decide +kernel
theorem dX8_spent_2 : decode cX8_spent 2 = .ok (.putfield 114, 3) := by decide +kernel
theorem dX8_spent_5 : decode cX8_spent 5 = .ok (.iload_n 1, 1) := by decide +kernel
theorem dX8_spent_6 : decode cX8_spent 6 = .ok (.iconst 0, 1) := by decide +kernel
theorem dX8_spent_7 : decode cX8_spent 7 = .ok (.sipush 999, 3) := by decide +kernel
theorem dX8_spent_10 : decode cX8_spent 10 = .ok (.invokestatic 123, 3) := by decide +kernel
theorem dX8_spent_13 : decode cX8_spent 13 = .ok (.ifCond .ne 5, 3) := by decide +kernel
theorem dX8_spent_16 : decode cX8_spent 16 = .ok (.iconst (-1), 1) := by decide +kernel
theorem dX8_spent_17 : decode cX8_spent 17 = .ok (.ireturn, 1) := by decide +kernel
theorem dX8_spent_18 : decode cX8_spent 18 = .ok (.iconst 0, 1) := by decide +kernel
theorem dX8_spent_19 : decode cX8_spent 19 = .ok (.istore_n 2, 1) := by decide +kernel
theorem dX8_spent_20 : decode cX8_spent 20 = .ok (.iconst 0, 1) := by decide +kernel
theorem dX8_spent_21 : decode cX8_spent 21 = .ok (.istore_n 3, 1) := by decide +kernel
theorem dX8_spent_22 : decode cX8_spent 22 = .ok (.iconst 0, 1) := by decide +kernel
theorem dX8_spent_23 : decode cX8_spent 23 = .ok (.istore 4, 2) := by decide +kernel
theorem dX8_spent_25 : decode cX8_spent 25 = .ok (.iload 4, 2) := by decide +kernel
theorem dX8_spent_27 : decode cX8_spent 27 = .ok (.aload_n 0, 1) := by decide +kernel
theorem dX8_spent_28 : decode cX8_spent 28 = .ok (.getfield 120, 3) := by decide +kernel
theorem dX8_spent_31 : decode cX8_spent 31 = .ok (.if_icmp .ge 83, 3) := by decide +kernel
theorem dX8_spent_34 : decode cX8_spent 34 = .ok (.iconst 0, 1) := by decide +kernel
theorem dX8_spent_35 : decode cX8_spent 35 = .ok (.istore 5, 2) := by decide +kernel
theorem dX8_spent_37 : decode cX8_spent 37 = .ok (.iload 5, 2) := by decide +kernel
theorem dX8_spent_39 : decode cX8_spent 39 = .ok (.bipush 8, 2) := by decide +kernel
theorem dX8_spent_41 : decode cX8_spent 41 = .ok (.if_icmp .ge 67, 3) := by decide +kernel
theorem dX8_spent_44 : decode cX8_spent 44 = .ok (.aload_n 0, 1) := by decide +kernel
theorem dX8_spent_45 : decode cX8_spent 45 = .ok (.getfield 26, 3) := by decide +kernel
theorem dX8_spent_48 : decode cX8_spent 48 = .ok (.iload 4, 2) := by decide +kernel
theorem dX8_spent_50 : decode cX8_spent 50 = .ok (.iaload, 1) := by decide +kernel
theorem dX8_spent_51 : decode cX8_spent 51 = .ok (.iload 5, 2) := by decide +kernel
theorem dX8_spent_53 : decode cX8_spent 53 = .ok (.invokestatic 271, 3) := by decide +kernel
theorem dX8_spent_56 : decode cX8_spent 56 = .ok (.ifCond .eq 46, 3) := by decide +kernel
theorem dX8_spent_59 : decode cX8_spent 59 = .ok (.aload_n 0, 1) := by decide +kernel
theorem dX8_spent_60 : decode cX8_spent 60 = .ok (.aload_n 0, 1) := by decide +kernel
theorem dX8_spent_61 : decode cX8_spent 61 = .ok (.getfield 9, 3) := by decide +kernel
theorem dX8_spent_64 : decode cX8_spent 64 = .ok (.iload 4, 2) := by decide +kernel
theorem dX8_spent_66 : decode cX8_spent 66 = .ok (.iload 5, 2) := by decide +kernel
theorem dX8_spent_68 : decode cX8_spent 68 = .ok (.invokevirtual 245, 3) := by decide +kernel
theorem dX8_spent_71 : decode cX8_spent 71 = .ok (.iload_n 1, 1) := by decide +kernel
theorem dX8_spent_72 : decode cX8_spent 72 = .ok (.if_icmp .gt 6, 3) := by decide +kernel
theorem dX8_spent_75 : decode cX8_spent 75 = .ok (.goto 27, 3) := by decide +kernel
theorem dX8_spent_78 : decode cX8_spent 78 = .ok (.iload_n 2, 1) := by decide +kernel
theorem dX8_spent_79 : decode cX8_spent 79 = .ok (.iconst 1, 1) := by decide +kernel
theorem dX8_spent_80 : decode cX8_spent 80 = .ok (.iload 4, 2) := by decide +kernel
theorem dX8_spent_82 : decode cX8_spent 82 = .ok (.ishl, 1) := by decide +kernel
theorem dX8_spent_83 : decode cX8_spent 83 = .ok (.ior, 1) := by decide +kernel
theorem dX8_spent_84 : decode cX8_spent 84 = .ok (.istore_n 2, 1) := by decide +kernel
theorem dX8_spent_85 : decode cX8_spent 85 = .ok (.iload_n 3, 1) := by decide +kernel
theorem dX8_spent_86 : decode cX8_spent 86 = .ok (.aload_n 0, 1) := by decide +kernel
theorem dX8_spent_87 : decode cX8_spent 87 = .ok (.aload_n 0, 1) := by decide +kernel
theorem dX8_spent_88 : decode cX8_spent 88 = .ok (.getfield 9, 3) := by decide +kernel
theorem dX8_spent_91 : decode cX8_spent 91 = .ok (.iload 4, 2) := by decide +kernel
theorem dX8_spent_93 : decode cX8_spent 93 = .ok (.iload 5, 2) := by decide +kernel
theorem dX8_spent_95 : decode cX8_spent 95 = .ok (.invokevirtual 245, 3) := by decide +kernel
theorem dX8_spent_98 : decode cX8_spent 98 = .ok (.invokestatic 232, 3) := by decide +kernel
theorem dX8_spent_101 : decode cX8_spent 101 = .ok (.istore_n 3, 1) := by decide +kernel
theorem dX8_spent_102 : decode cX8_spent 102 = .ok (.iinc 5 1, 3) := by decide +kernel
theorem dX8_spent_105 : decode cX8_spent 105 = .ok (.goto (-68), 3) := by decide +kernel
theorem dX8_spent_108 : decode cX8_spent 108 = .ok (.iinc 4 1, 3) := by decide +kernel
theorem dX8_spent_111 : decode cX8_spent 111 = .ok (.goto (-86), 3) := by decide +kernel
theorem dX8_spent_114 : decode cX8_spent 114 = .ok (.aload_n 0, 1) := by decide +kernel
theorem dX8_spent_115 : decode cX8_spent 115 = .ok (.iconst 0, 1) := by decide +kernel
theorem dX8_spent_116 : decode cX8_spent 116 = .ok (.putfield 117, 3) := by decide +kernel
theorem dX8_spent_119 : decode cX8_spent 119 = .ok (.aload_n 0, 1) := by decide +kernel
theorem dX8_spent_120 : decode cX8_spent 120 = .ok (.iload_n 2, 1) := by decide +kernel
theorem dX8_spent_121 : decode cX8_spent 121 = .ok (.invokestatic 221, 3) := by decide +kernel
theorem dX8_spent_124 : decode cX8_spent 124 = .ok (.i2l, 1) := by decide +kernel
theorem dX8_spent_125 : decode cX8_spent 125 = .ok (.invokevirtual 284, 3) := by decide +kernel
theorem dX8_spent_128 : decode cX8_spent 128 = .ok (.aload_n 0, 1) := by decide +kernel
theorem dX8_spent_129 : decode cX8_spent 129 = .ok (.iload_n 3, 1) := by decide +kernel
theorem dX8_spent_130 : decode cX8_spent 130 = .ok (.i2l, 1) := by decide +kernel
theorem dX8_spent_131 : decode cX8_spent 131 = .ok (.invokevirtual 284, 3) := by decide +kernel
theorem dX8_spent_134 : decode cX8_spent 134 = .ok (.iload_n 2, 1) := by decide +kernel
theorem dX8_spent_135 : decode cX8_spent 135 = .ok (.ireturn, 1) := by decide +kernel
theorem dX8_sum_0 : decode cX8_sum 0 = .ok (.aload_n 0, 1) := by decide +kernel
theorem dX8_sum_1 : decode cX8_sum 1 = .ok (.iload_n 1, 1) := by decide +kernel
theorem dX8_sum_2 : decode cX8_sum 2 = .ok (.invokevirtual 192, 3) := by decide +kernel
theorem dX8_sum_5 : decode cX8_sum 5 = .ok (.istore_n 2, 1) := by decide +kernel
theorem dX8_sum_6 : decode cX8_sum 6 = .ok (.aload_n 0, 1) := by decide +kernel
theorem dX8_sum_7 : decode cX8_sum 7 = .ok (.invokevirtual 153, 3) := by decide +kernel
theorem dX8_sum_10 : decode cX8_sum 10 = .ok (.ifCond .eq 72, 3) := by decide +kernel
theorem dX8_sum_13 : decode cX8_sum 13 = .ok (.aload_n 0, 1) := by decide +kernel
theorem dX8_sum_14 : decode cX8_sum 14 = .ok (.invokevirtual 157, 3) := by decide +kernel
theorem dX8_sum_17 : decode cX8_sum 17 = .ok (.bipush 43, 2) := by decide +kernel
theorem dX8_sum_19 : decode cX8_sum 19 = .ok (.if_icmp .eq 12, 3) := by decide +kernel
theorem dX8_sum_22 : decode cX8_sum 22 = .ok (.aload_n 0, 1) := by decide +kernel
theorem dX8_sum_23 : decode cX8_sum 23 = .ok (.invokevirtual 157, 3) := by decide +kernel
theorem dX8_sum_26 : decode cX8_sum 26 = .ok (.bipush 45, 2) := by decide +kernel
theorem dX8_sum_28 : decode cX8_sum 28 = .ok (.if_icmp .ne 54, 3) := by decide +kernel
theorem dX8_sum_31 : decode cX8_sum 31 = .ok (.aload_n 0, 1) := by decide +kernel
theorem dX8_sum_32 : decode cX8_sum 32 = .ok (.invokevirtual 157, 3) := by decide +kernel
theorem dX8_sum_35 : decode cX8_sum 35 = .ok (.bipush 43, 2) := by decide +kernel
theorem dX8_sum_37 : decode cX8_sum 37 = .ok (.if_icmp .ne 7, 3) := by decide +kernel
theorem dX8_sum_40 : decode cX8_sum 40 = .ok (.iconst 1, 1) := by decide +kernel
theorem dX8_sum_41 : decode cX8_sum 41 = .ok (.goto 4, 3) := by decide +kernel
theorem dX8_sum_44 : decode cX8_sum 44 = .ok (.iconst 0, 1) := by decide +kernel
theorem dX8_sum_45 : decode cX8_sum 45 = .ok (.istore_n 3, 1) := by decide +kernel
theorem dX8_sum_46 : decode cX8_sum 46 = .ok (.aload_n 0, 1) := by decide +kernel
theorem dX8_sum_47 : decode cX8_sum 47 = .ok (.dup, 1) := by decide +kernel
theorem dX8_sum_48 : decode cX8_sum 48 = .ok (.getfield 143, 3) := by decide +kernel
theorem dX8_sum_51 : decode cX8_sum 51 = .ok (.iconst 1, 1) := by decide +kernel
theorem dX8_sum_52 : decode cX8_sum 52 = .ok (.iadd, 1) := by decide +kernel
theorem dX8_sum_53 : decode cX8_sum 53 = .ok (.putfield 143, 3) := by decide +kernel
theorem dX8_sum_56 : decode cX8_sum 56 = .ok (.aload_n 0, 1) := by decide +kernel
theorem dX8_sum_57 : decode cX8_sum 57 = .ok (.iload_n 1, 1) := by decide +kernel
theorem dX8_sum_58 : decode cX8_sum 58 = .ok (.invokevirtual 192, 3) := by decide +kernel
theorem dX8_sum_61 : decode cX8_sum 61 = .ok (.istore 4, 2) := by decide +kernel
theorem dX8_sum_63 : decode cX8_sum 63 = .ok (.iload_n 3, 1) := by decide +kernel
theorem dX8_sum_64 : decode cX8_sum 64 = .ok (.ifCond .eq 10, 3) := by decide +kernel
theorem dX8_sum_67 : decode cX8_sum 67 = .ok (.iload_n 2, 1) := by decide +kernel
theorem dX8_sum_68 : decode cX8_sum 68 = .ok (.iload 4, 2) := by decide +kernel
theorem dX8_sum_70 : decode cX8_sum 70 = .ok (.iadd, 1) := by decide +kernel
theorem dX8_sum_71 : decode cX8_sum 71 = .ok (.goto 7, 3) := by decide +kernel
theorem dX8_sum_74 : decode cX8_sum 74 = .ok (.iload_n 2, 1) := by decide +kernel
theorem dX8_sum_75 : decode cX8_sum 75 = .ok (.iload 4, 2) := by decide +kernel
theorem dX8_sum_77 : decode cX8_sum 77 = .ok (.isub, 1) := by decide +kernel
theorem dX8_sum_78 : decode cX8_sum 78 = .ok (.istore_n 2, 1) := by decide +kernel
theorem dX8_sum_79 : decode cX8_sum 79 = .ok (.goto (-73), 3) := by decide +kernel
theorem dX8_sum_82 : decode cX8_sum 82 = .ok (.iload_n 2, 1) := by decide +kernel
theorem dX8_sum_83 : decode cX8_sum 83 = .ok (.ireturn, 1) := by decide +kernel
theorem dX8_sure_0 : decode cX8_sure 0 = .ok (.aload_n 0, 1) := by decide +kernel
theorem dX8_sure_1 : decode cX8_sure 1 = .ok (.iconst 0, 1) := by decide +kernel
theorem dX8_sure_2 : decode cX8_sure 2 = .ok (.putfield 114, 3) := by decide +kernel
theorem dX8_sure_5 : decode cX8_sure 5 = .ok (.iload_n 1, 1) := by decide +kernel
theorem dX8_sure_6 : decode cX8_sure 6 = .ok (.iconst 0, 1) := by decide +kernel
theorem dX8_sure_7 : decode cX8_sure 7 = .ok (.aload_n 0, 1) := by decide +kernel
theorem dX8_sure_8 : decode cX8_sure 8 = .ok (.getfield 13, 3) := by decide +kernel
theorem dX8_sure_11 : decode cX8_sure 11 = .ok (.iconst 1, 1) := by decide +kernel
theorem dX8_sure_12 : decode cX8_sure 12 = .ok (.isub, 1) := by decide +kernel
theorem dX8_sure_13 : decode cX8_sure 13 = .ok (.invokestatic 123, 3) := by decide +kernel
theorem dX8_sure_16 : decode cX8_sure 16 = .ok (.ifCond .eq 11, 3) := by decide +kernel
theorem dX8_sure_19 : decode cX8_sure 19 = .ok (.aload_n 0, 1) := by decide +kernel
theorem dX8_sure_20 : decode cX8_sure 20 = .ok (.iload_n 2, 1) := by decide +kernel
theorem dX8_sure_21 : decode cX8_sure 21 = .ok (.invokevirtual 127, 3) := by decide +kernel
theorem dX8_sure_24 : decode cX8_sure 24 = .ok (.ifCond .ne 5, 3) := by decide +kernel
theorem dX8_sure_27 : decode cX8_sure 27 = .ok (.iconst (-1), 1) := by decide +kernel
theorem dX8_sure_28 : decode cX8_sure 28 = .ok (.ireturn, 1) := by decide +kernel
theorem dX8_sure_29 : decode cX8_sure 29 = .ok (.aload_n 0, 1) := by decide +kernel
theorem dX8_sure_30 : decode cX8_sure 30 = .ok (.iconst (-1), 1) := by decide +kernel
theorem dX8_sure_31 : decode cX8_sure 31 = .ok (.iconst (-1), 1) := by decide +kernel
theorem dX8_sure_32 : decode cX8_sure 32 = .ok (.invokevirtual 371, 3) := by decide +kernel
theorem dX8_sure_35 : decode cX8_sure 35 = .ok (.istore_n 3, 1) := by decide +kernel
theorem dX8_sure_36 : decode cX8_sure 36 = .ok (.iload_n 3, 1) := by decide +kernel
theorem dX8_sure_37 : decode cX8_sure 37 = .ok (.ifCond .ne 6, 3) := by decide +kernel
theorem dX8_sure_40 : decode cX8_sure 40 = .ok (.bipush (-2), 2) := by decide +kernel
theorem dX8_sure_42 : decode cX8_sure 42 = .ok (.ireturn, 1) := by decide +kernel
theorem dX8_sure_43 : decode cX8_sure 43 = .ok (.aload_n 0, 1) := by decide +kernel
theorem dX8_sure_44 : decode cX8_sure 44 = .ok (.iload_n 1, 1) := by decide +kernel
theorem dX8_sure_45 : decode cX8_sure 45 = .ok (.iload_n 2, 1) := by decide +kernel
theorem dX8_sure_46 : decode cX8_sure 46 = .ok (.invokevirtual 371, 3) := by decide +kernel
theorem dX8_sure_49 : decode cX8_sure 49 = .ok (.istore 4, 2) := by decide +kernel
theorem dX8_sure_51 : decode cX8_sure 51 = .ok (.aload_n 0, 1) := by decide +kernel
theorem dX8_sure_52 : decode cX8_sure 52 = .ok (.iload 4, 2) := by decide +kernel
theorem dX8_sure_54 : decode cX8_sure 54 = .ok (.i2l, 1) := by decide +kernel
theorem dX8_sure_55 : decode cX8_sure 55 = .ok (.iload_n 3, 1) := by decide +kernel
theorem dX8_sure_56 : decode cX8_sure 56 = .ok (.i2l, 1) := by decide +kernel
theorem dX8_sure_57 : decode cX8_sure 57 = .ok (.invokevirtual 378, 3) := by decide +kernel
theorem dX8_sure_60 : decode cX8_sure 60 = .ok (.iload 4, 2) := by decide +kernel
theorem dX8_sure_62 : decode cX8_sure 62 = .ok (.ireturn, 1) := by decide +kernel
theorem dX8_takes_0 : decode cX8_takes 0 = .ok (.aload_n 0, 1) := by decide +kernel
theorem dX8_takes_1 : decode cX8_takes 1 = .ok (.iconst 0, 1) := by decide +kernel
theorem dX8_takes_2 : decode cX8_takes 2 = .ok (.putfield 114, 3) := by decide +kernel
theorem dX8_takes_5 : decode cX8_takes 5 = .ok (.aload_n 0, 1) := by decide +kernel
theorem dX8_takes_6 : decode cX8_takes 6 = .ok (.iconst (-1), 1) := by decide +kernel
theorem dX8_takes_7 : decode cX8_takes 7 = .ok (.invokevirtual 338, 3) := by decide +kernel
theorem dX8_takes_10 : decode cX8_takes 10 = .ok (.istore_n 1, 1) := by decide +kernel
theorem dX8_takes_11 : decode cX8_takes 11 = .ok (.iload_n 1, 1) := by decide +kernel
theorem dX8_takes_12 : decode cX8_takes 12 = .ok (.ldc 88, 2) := by decide +kernel
theorem dX8_takes_14 : decode cX8_takes 14 = .ok (.if_icmp .ne 6, 3) := by decide +kernel
theorem dX8_takes_17 : decode cX8_takes 17 = .ok (.bipush (-2), 2) := by decide +kernel
theorem dX8_takes_19 : decode cX8_takes 19 = .ok (.ireturn, 1) := by decide +kernel
theorem dX8_takes_20 : decode cX8_takes 20 = .ok (.aload_n 0, 1) := by decide +kernel
theorem dX8_takes_21 : decode cX8_takes 21 = .ok (.iconst 0, 1) := by decide +kernel
theorem dX8_takes_22 : decode cX8_takes 22 = .ok (.iload_n 1, 1) := by decide +kernel
theorem dX8_takes_23 : decode cX8_takes 23 = .ok (.invokevirtual 341, 3) := by decide +kernel
theorem dX8_takes_26 : decode cX8_takes 26 = .ok (.aload_n 0, 1) := by decide +kernel
theorem dX8_takes_27 : decode cX8_takes 27 = .ok (.aload_n 0, 1) := by decide +kernel
theorem dX8_takes_28 : decode cX8_takes 28 = .ok (.getfield 9, 3) := by decide +kernel
theorem dX8_takes_31 : decode cX8_takes 31 = .ok (.invokevirtual 253, 3) := by decide +kernel
theorem dX8_takes_34 : decode cX8_takes 34 = .ok (.iconst 0, 1) := by decide +kernel
theorem dX8_takes_35 : decode cX8_takes 35 = .ok (.istore_n 2, 1) := by decide +kernel
theorem dX8_takes_36 : decode cX8_takes 36 = .ok (.iconst 0, 1) := by decide +kernel
theorem dX8_takes_37 : decode cX8_takes 37 = .ok (.istore_n 3, 1) := by decide +kernel
theorem dX8_takes_38 : decode cX8_takes 38 = .ok (.iload_n 3, 1) := by decide +kernel
theorem dX8_takes_39 : decode cX8_takes 39 = .ok (.aload_n 0, 1) := by decide +kernel
theorem dX8_takes_40 : decode cX8_takes 40 = .ok (.getfield 13, 3) := by decide +kernel
theorem dX8_takes_43 : decode cX8_takes 43 = .ok (.if_icmp .ge 44, 3) := by decide +kernel
theorem dX8_takes_46 : decode cX8_takes 46 = .ok (.iload_n 2, 1) := by decide +kernel
theorem dX8_takes_47 : decode cX8_takes 47 = .ok (.aload_n 0, 1) := by decide +kernel
theorem dX8_takes_48 : decode cX8_takes 48 = .ok (.getfield 9, 3) := by decide +kernel
theorem dX8_takes_51 : decode cX8_takes 51 = .ok (.iload_n 3, 1) := by decide +kernel
theorem dX8_takes_52 : decode cX8_takes 52 = .ok (.iaload, 1) := by decide +kernel
theorem dX8_takes_53 : decode cX8_takes 53 = .ok (.aload_n 0, 1) := by decide +kernel
theorem dX8_takes_54 : decode cX8_takes 54 = .ok (.getfield 92, 3) := by decide +kernel
theorem dX8_takes_57 : decode cX8_takes 57 = .ok (.iload_n 3, 1) := by decide +kernel
theorem dX8_takes_58 : decode cX8_takes 58 = .ok (.iaload, 1) := by decide +kernel
theorem dX8_takes_59 : decode cX8_takes 59 = .ok (.if_icmp .ne 7, 3) := by decide +kernel
theorem dX8_takes_62 : decode cX8_takes 62 = .ok (.iconst 0, 1) := by decide +kernel
theorem dX8_takes_63 : decode cX8_takes 63 = .ok (.goto 4, 3) := by decide +kernel
theorem dX8_takes_66 : decode cX8_takes 66 = .ok (.iconst 1, 1) := by decide +kernel
theorem dX8_takes_67 : decode cX8_takes 67 = .ok (.iadd, 1) := by decide +kernel
theorem dX8_takes_68 : decode cX8_takes 68 = .ok (.istore_n 2, 1) := by decide +kernel
theorem dX8_takes_69 : decode cX8_takes 69 = .ok (.aload_n 0, 1) := by decide +kernel
theorem dX8_takes_70 : decode cX8_takes 70 = .ok (.getfield 9, 3) := by decide +kernel
theorem dX8_takes_73 : decode cX8_takes 73 = .ok (.iload_n 3, 1) := by decide +kernel
theorem dX8_takes_74 : decode cX8_takes 74 = .ok (.aload_n 0, 1) := by decide +kernel
theorem dX8_takes_75 : decode cX8_takes 75 = .ok (.getfield 92, 3) := by decide +kernel
theorem dX8_takes_78 : decode cX8_takes 78 = .ok (.iload_n 3, 1) := by decide +kernel
theorem dX8_takes_79 : decode cX8_takes 79 = .ok (.iaload, 1) := by decide +kernel
theorem dX8_takes_80 : decode cX8_takes 80 = .ok (.iastore, 1) := by decide +kernel
theorem dX8_takes_81 : decode cX8_takes 81 = .ok (.iinc 3 1, 3) := by decide +kernel
theorem dX8_takes_84 : decode cX8_takes 84 = .ok (.goto (-46), 3) := by decide +kernel
theorem dX8_takes_87 : decode cX8_takes 87 = .ok (.iload_n 2, 1) := by decide +kernel
theorem dX8_takes_88 : decode cX8_takes 88 = .ok (.ireturn, 1) := by decide +kernel
theorem dX8_tell_0 : decode cX8_tell 0 = .ok (.aload_n 0, 1) := by decide +kernel
theorem dX8_tell_1 : decode cX8_tell 1 = .ok (.getfield 33, 3) := by decide +kernel
theorem dX8_tell_4 : decode cX8_tell 4 = .ok (.aload_n 0, 1) := by decide +kernel
theorem dX8_tell_5 : decode cX8_tell 5 = .ok (.getfield 117, 3) := by decide +kernel
theorem dX8_tell_8 : decode cX8_tell 8 = .ok (.lload_n 1, 1) := by decide +kernel
theorem dX8_tell_9 : decode cX8_tell 9 = .ok (.lastore, 1) := by decide +kernel
theorem dX8_tell_10 : decode cX8_tell 10 = .ok (.aload_n 0, 1) := by decide +kernel
theorem dX8_tell_11 : decode cX8_tell 11 = .ok (.dup, 1) := by decide +kernel
theorem dX8_tell_12 : decode cX8_tell 12 = .ok (.getfield 117, 3) := by decide +kernel
theorem dX8_tell_15 : decode cX8_tell 15 = .ok (.iconst 1, 1) := by decide +kernel
theorem dX8_tell_16 : decode cX8_tell 16 = .ok (.iadd, 1) := by decide +kernel
theorem dX8_tell_17 : decode cX8_tell 17 = .ok (.putfield 117, 3) := by decide +kernel
theorem dX8_tell_20 : decode cX8_tell 20 = .ok (.return_, 1) := by decide +kernel
theorem dX8_tellLine_0 : decode cX8_tellLine 0 = .ok (.aload_n 0, 1) := by decide +kernel
theorem dX8_tellLine_1 : decode cX8_tellLine 1 = .ok (.iconst 0, 1) := by decide +kernel
theorem dX8_tellLine_2 : decode cX8_tellLine 2 = .ok (.putfield 117, 3) := by decide +kernel
theorem dX8_tellLine_5 : decode cX8_tellLine 5 = .ok (.iconst 0, 1) := by decide +kernel
theorem dX8_tellLine_6 : decode cX8_tellLine 6 = .ok (.istore_n 1, 1) := by decide +kernel
theorem dX8_tellLine_7 : decode cX8_tellLine 7 = .ok (.iload_n 1, 1) := by decide +kernel
theorem dX8_tellLine_8 : decode cX8_tellLine 8 = .ok (.aload_n 0, 1) := by decide +kernel
theorem dX8_tellLine_9 : decode cX8_tellLine 9 = .ok (.getfield 13, 3) := by decide +kernel
theorem dX8_tellLine_12 : decode cX8_tellLine 12 = .ok (.if_icmp .ge 20, 3) := by decide +kernel
theorem dX8_tellLine_15 : decode cX8_tellLine 15 = .ok (.aload_n 0, 1) := by decide +kernel
theorem dX8_tellLine_16 : decode cX8_tellLine 16 = .ok (.aload_n 0, 1) := by decide +kernel
theorem dX8_tellLine_17 : decode cX8_tellLine 17 = .ok (.getfield 92, 3) := by decide +kernel
theorem dX8_tellLine_20 : decode cX8_tellLine 20 = .ok (.iload_n 1, 1) := by decide +kernel
theorem dX8_tellLine_21 : decode cX8_tellLine 21 = .ok (.iaload, 1) := by decide +kernel
theorem dX8_tellLine_22 : decode cX8_tellLine 22 = .ok (.i2l, 1) := by decide +kernel
theorem dX8_tellLine_23 : decode cX8_tellLine 23 = .ok (.invokevirtual 284, 3) := by decide +kernel
theorem dX8_tellLine_26 : decode cX8_tellLine 26 = .ok (.iinc 1 1, 3) := by decide +kernel
theorem dX8_tellLine_29 : decode cX8_tellLine 29 = .ok (.goto (-22), 3) := by decide +kernel
theorem dX8_tellLine_32 : decode cX8_tellLine 32 = .ok (.return_, 1) := by decide +kernel
theorem dX8_tellPart_0 : decode cX8_tellPart 0 = .ok (.lload_n 1, 1) := by decide +kernel
theorem dX8_tellPart_1 : decode cX8_tellPart 1 = .ok (.lload_n 3, 1) := by decide +kernel
theorem dX8_tellPart_2 : decode cX8_tellPart 2 = .ok (.invokestatic 374, 3) := by decide +kernel
theorem dX8_tellPart_5 : decode cX8_tellPart 5 = .ok (.lstore 5, 2) := by decide +kernel
theorem dX8_tellPart_7 : decode cX8_tellPart 7 = .ok (.aload_n 0, 1) := by decide +kernel
theorem dX8_tellPart_8 : decode cX8_tellPart 8 = .ok (.iconst 0, 1) := by decide +kernel
theorem dX8_tellPart_9 : decode cX8_tellPart 9 = .ok (.putfield 117, 3) := by decide +kernel
theorem dX8_tellPart_12 : decode cX8_tellPart 12 = .ok (.aload_n 0, 1) := by decide +kernel
theorem dX8_tellPart_13 : decode cX8_tellPart 13 = .ok (.lload_n 1, 1) := by decide +kernel
theorem dX8_tellPart_14 : decode cX8_tellPart 14 = .ok (.lload 5, 2) := by decide +kernel
theorem dX8_tellPart_16 : decode cX8_tellPart 16 = .ok (.ldiv, 1) := by decide +kernel
theorem dX8_tellPart_17 : decode cX8_tellPart 17 = .ok (.invokevirtual 284, 3) := by decide +kernel
theorem dX8_tellPart_20 : decode cX8_tellPart 20 = .ok (.aload_n 0, 1) := by decide +kernel
theorem dX8_tellPart_21 : decode cX8_tellPart 21 = .ok (.lload_n 3, 1) := by decide +kernel
theorem dX8_tellPart_22 : decode cX8_tellPart 22 = .ok (.lload 5, 2) := by decide +kernel
theorem dX8_tellPart_24 : decode cX8_tellPart 24 = .ok (.ldiv, 1) := by decide +kernel
theorem dX8_tellPart_25 : decode cX8_tellPart 25 = .ok (.invokevirtual 284, 3) := by decide +kernel
theorem dX8_tellPart_28 : decode cX8_tellPart 28 = .ok (.return_, 1) := by decide +kernel
theorem dX8_tellWays_0 : decode cX8_tellWays 0 = .ok (.aload_n 0, 1) := by decide +kernel
theorem dX8_tellWays_1 : decode cX8_tellWays 1 = .ok (.invokevirtual 350, 3) := by decide +kernel
theorem dX8_tellWays_4 : decode cX8_tellWays 4 = .ok (.istore_n 1, 1) := by decide +kernel
theorem dX8_tellWays_5 : decode cX8_tellWays 5 = .ok (.aload_n 0, 1) := by decide +kernel
theorem dX8_tellWays_6 : decode cX8_tellWays 6 = .ok (.iconst 0, 1) := by decide +kernel
theorem dX8_tellWays_7 : decode cX8_tellWays 7 = .ok (.putfield 117, 3) := by decide +kernel
theorem dX8_tellWays_10 : decode cX8_tellWays 10 = .ok (.iload_n 1, 1) := by decide +kernel
theorem dX8_tellWays_11 : decode cX8_tellWays 11 = .ok (.ifCond .ne 5, 3) := by decide +kernel
theorem dX8_tellWays_14 : decode cX8_tellWays 14 = .ok (.iconst 0, 1) := by decide +kernel
theorem dX8_tellWays_15 : decode cX8_tellWays 15 = .ok (.ireturn, 1) := by decide +kernel
theorem dX8_tellWays_16 : decode cX8_tellWays 16 = .ok (.aload_n 0, 1) := by decide +kernel
theorem dX8_tellWays_17 : decode cX8_tellWays 17 = .ok (.iconst 2, 1) := by decide +kernel
theorem dX8_tellWays_18 : decode cX8_tellWays 18 = .ok (.iconst 0, 1) := by decide +kernel
theorem dX8_tellWays_19 : decode cX8_tellWays 19 = .ok (.invokevirtual 341, 3) := by decide +kernel
theorem dX8_tellWays_22 : decode cX8_tellWays 22 = .ok (.aload_n 0, 1) := by decide +kernel
theorem dX8_tellWays_23 : decode cX8_tellWays 23 = .ok (.invokevirtual 344, 3) := by decide +kernel
theorem dX8_tellWays_26 : decode cX8_tellWays 26 = .ok (.iload_n 1, 1) := by decide +kernel
theorem dX8_tellWays_27 : decode cX8_tellWays 27 = .ok (.ireturn, 1) := by decide +kernel
theorem dX8_thin_0 : decode cX8_thin 0 = .ok (.aload_n 0, 1) := by decide +kernel
theorem dX8_thin_1 : decode cX8_thin 1 = .ok (.iconst 0, 1) := by decide +kernel
theorem dX8_thin_2 : decode cX8_thin 2 = .ok (.putfield 114, 3) := by decide +kernel
theorem dX8_thin_5 : decode cX8_thin 5 = .ok (.iconst 0, 1) := by decide +kernel
theorem dX8_thin_6 : decode cX8_thin 6 = .ok (.istore_n 1, 1) := by decide +kernel
theorem dX8_thin_7 : decode cX8_thin 7 = .ok (.iconst 1, 1) := by decide +kernel
theorem dX8_thin_8 : decode cX8_thin 8 = .ok (.istore_n 2, 1) := by decide +kernel
theorem dX8_thin_9 : decode cX8_thin 9 = .ok (.iload_n 2, 1) := by decide +kernel
theorem dX8_thin_10 : decode cX8_thin 10 = .ok (.aload_n 0, 1) := by decide +kernel
theorem dX8_thin_11 : decode cX8_thin 11 = .ok (.getfield 13, 3) := by decide +kernel
theorem dX8_thin_14 : decode cX8_thin 14 = .ok (.if_icmp .ge 24, 3) := by decide +kernel
theorem dX8_thin_17 : decode cX8_thin 17 = .ok (.aload_n 0, 1) := by decide +kernel
theorem dX8_thin_18 : decode cX8_thin 18 = .ok (.iload_n 2, 1) := by decide +kernel
theorem dX8_thin_19 : decode cX8_thin 19 = .ok (.invokevirtual 356, 3) := by decide +kernel
theorem dX8_thin_22 : decode cX8_thin 22 = .ok (.aload_n 0, 1) := by decide +kernel
theorem dX8_thin_23 : decode cX8_thin 23 = .ok (.iload_n 1, 1) := by decide +kernel
theorem dX8_thin_24 : decode cX8_thin 24 = .ok (.invokevirtual 356, 3) := by decide +kernel
theorem dX8_thin_27 : decode cX8_thin 27 = .ok (.if_icmp .ge 5, 3) := by decide +kernel
theorem dX8_thin_30 : decode cX8_thin 30 = .ok (.iload_n 2, 1) := by decide +kernel
theorem dX8_thin_31 : decode cX8_thin 31 = .ok (.istore_n 1, 1) := by decide +kernel
theorem dX8_thin_32 : decode cX8_thin 32 = .ok (.iinc 2 1, 3) := by decide +kernel
theorem dX8_thin_35 : decode cX8_thin 35 = .ok (.goto (-26), 3) := by decide +kernel
theorem dX8_thin_38 : decode cX8_thin 38 = .ok (.aload_n 0, 1) := by decide +kernel
theorem dX8_thin_39 : decode cX8_thin 39 = .ok (.iconst 0, 1) := by decide +kernel
theorem dX8_thin_40 : decode cX8_thin 40 = .ok (.putfield 117, 3) := by decide +kernel
theorem dX8_thin_43 : decode cX8_thin 43 = .ok (.aload_n 0, 1) := by decide +kernel
theorem dX8_thin_44 : decode cX8_thin 44 = .ok (.aload_n 0, 1) := by decide +kernel
theorem dX8_thin_45 : decode cX8_thin 45 = .ok (.iload_n 1, 1) := by decide +kernel
theorem dX8_thin_46 : decode cX8_thin 46 = .ok (.invokevirtual 356, 3) := by decide +kernel
theorem dX8_thin_49 : decode cX8_thin 49 = .ok (.i2l, 1) := by decide +kernel
theorem dX8_thin_50 : decode cX8_thin 50 = .ok (.invokevirtual 284, 3) := by decide +kernel
theorem dX8_thin_53 : decode cX8_thin 53 = .ok (.iload_n 1, 1) := by decide +kernel
theorem dX8_thin_54 : decode cX8_thin 54 = .ok (.ireturn, 1) := by decide +kernel
theorem dX8_thing_0 : decode cX8_thing 0 = .ok (.aload_n 0, 1) := by decide +kernel
theorem dX8_thing_1 : decode cX8_thing 1 = .ok (.bipush 45, 2) := by decide +kernel
theorem dX8_thing_3 : decode cX8_thing 3 = .ok (.invokevirtual 161, 3) := by decide +kernel
theorem dX8_thing_6 : decode cX8_thing 6 = .ok (.ifCond .eq 10, 3) := by decide +kernel
theorem dX8_thing_9 : decode cX8_thing 9 = .ok (.aload_n 0, 1) := by decide +kernel
theorem dX8_thing_10 : decode cX8_thing 10 = .ok (.iload_n 1, 1) := by decide +kernel
theorem dX8_thing_11 : decode cX8_thing 11 = .ok (.invokevirtual 195, 3) := by decide +kernel
theorem dX8_thing_14 : decode cX8_thing 14 = .ok (.ineg, 1) := by decide +kernel
theorem dX8_thing_15 : decode cX8_thing 15 = .ok (.ireturn, 1) := by decide +kernel
theorem dX8_thing_16 : decode cX8_thing 16 = .ok (.aload_n 0, 1) := by decide +kernel
theorem dX8_thing_17 : decode cX8_thing 17 = .ok (.invokevirtual 153, 3) := by decide +kernel
theorem dX8_thing_20 : decode cX8_thing 20 = .ok (.ifCond .ne 5, 3) := by decide +kernel
theorem dX8_thing_23 : decode cX8_thing 23 = .ok (.iconst 0, 1) := by decide +kernel
theorem dX8_thing_24 : decode cX8_thing 24 = .ok (.ireturn, 1) := by decide +kernel
theorem dX8_thing_25 : decode cX8_thing 25 = .ok (.aload_n 0, 1) := by decide +kernel
theorem dX8_thing_26 : decode cX8_thing 26 = .ok (.invokevirtual 157, 3) := by decide +kernel
theorem dX8_thing_29 : decode cX8_thing 29 = .ok (.istore_n 2, 1) := by decide +kernel
theorem dX8_thing_30 : decode cX8_thing 30 = .ok (.iload_n 2, 1) := by decide +kernel
theorem dX8_thing_31 : decode cX8_thing 31 = .ok (.bipush 40, 2) := by decide +kernel
theorem dX8_thing_33 : decode cX8_thing 33 = .ok (.if_icmp .ne 34, 3) := by decide +kernel
theorem dX8_thing_36 : decode cX8_thing 36 = .ok (.iload_n 1, 1) := by decide +kernel
theorem dX8_thing_37 : decode cX8_thing 37 = .ok (.iconst 4, 1) := by decide +kernel
theorem dX8_thing_38 : decode cX8_thing 38 = .ok (.if_icmp .ge 29, 3) := by decide +kernel
theorem dX8_thing_41 : decode cX8_thing 41 = .ok (.aload_n 0, 1) := by decide +kernel
theorem dX8_thing_42 : decode cX8_thing 42 = .ok (.dup, 1) := by decide +kernel
theorem dX8_thing_43 : decode cX8_thing 43 = .ok (.getfield 143, 3) := by decide +kernel
theorem dX8_thing_46 : decode cX8_thing 46 = .ok (.iconst 1, 1) := by decide +kernel
theorem dX8_thing_47 : decode cX8_thing 47 = .ok (.iadd, 1) := by decide +kernel
theorem dX8_thing_48 : decode cX8_thing 48 = .ok (.putfield 143, 3) := by decide +kernel
theorem dX8_thing_51 : decode cX8_thing 51 = .ok (.aload_n 0, 1) := by decide +kernel
theorem dX8_thing_52 : decode cX8_thing 52 = .ok (.iload_n 1, 1) := by decide +kernel
theorem dX8_thing_53 : decode cX8_thing 53 = .ok (.iconst 1, 1) := by decide +kernel
theorem dX8_thing_54 : decode cX8_thing 54 = .ok (.iadd, 1) := by decide +kernel
theorem dX8_thing_55 : decode cX8_thing 55 = .ok (.invokevirtual 198, 3) := by decide +kernel
theorem dX8_thing_58 : decode cX8_thing 58 = .ok (.istore_n 3, 1) := by decide +kernel
theorem dX8_thing_59 : decode cX8_thing 59 = .ok (.aload_n 0, 1) := by decide +kernel
theorem dX8_thing_60 : decode cX8_thing 60 = .ok (.bipush 41, 2) := by decide +kernel
theorem dX8_thing_62 : decode cX8_thing 62 = .ok (.invokevirtual 201, 3) := by decide +kernel
theorem dX8_thing_65 : decode cX8_thing 65 = .ok (.iload_n 3, 1) := by decide +kernel
theorem dX8_thing_66 : decode cX8_thing 66 = .ok (.ireturn, 1) := by decide +kernel
theorem dX8_thing_67 : decode cX8_thing 67 = .ok (.iload_n 2, 1) := by decide +kernel
theorem dX8_thing_68 : decode cX8_thing 68 = .ok (.bipush 48, 2) := by decide +kernel
theorem dX8_thing_70 : decode cX8_thing 70 = .ok (.bipush 57, 2) := by decide +kernel
theorem dX8_thing_72 : decode cX8_thing 72 = .ok (.invokestatic 123, 3) := by decide +kernel
theorem dX8_thing_75 : decode cX8_thing 75 = .ok (.ifCond .eq 9, 3) := by decide +kernel
theorem dX8_thing_78 : decode cX8_thing 78 = .ok (.aload_n 0, 1) := by decide +kernel
theorem dX8_thing_79 : decode cX8_thing 79 = .ok (.iconst 3, 1) := by decide +kernel
theorem dX8_thing_80 : decode cX8_thing 80 = .ok (.invokevirtual 205, 3) := by decide +kernel
theorem dX8_thing_83 : decode cX8_thing 83 = .ok (.ireturn, 1) := by decide +kernel
theorem dX8_thing_84 : decode cX8_thing 84 = .ok (.iload_n 2, 1) := by decide +kernel
theorem dX8_thing_85 : decode cX8_thing 85 = .ok (.invokestatic 208, 3) := by decide +kernel
theorem dX8_thing_88 : decode cX8_thing 88 = .ok (.iconst (-1), 1) := by decide +kernel
theorem dX8_thing_89 : decode cX8_thing 89 = .ok (.if_icmp .ne 13, 3) := by decide +kernel
theorem dX8_thing_92 : decode cX8_thing 92 = .ok (.aload_n 0, 1) := by decide +kernel
theorem dX8_thing_93 : decode cX8_thing 93 = .ok (.aload_n 0, 1) := by decide +kernel
theorem dX8_thing_94 : decode cX8_thing 94 = .ok (.getfield 143, 3) := by decide +kernel
theorem dX8_thing_97 : decode cX8_thing 97 = .ok (.invokevirtual 165, 3) := by decide +kernel
theorem dX8_thing_100 : decode cX8_thing 100 = .ok (.iconst 0, 1) := by decide +kernel
theorem dX8_thing_101 : decode cX8_thing 101 = .ok (.ireturn, 1) := by decide +kernel
theorem dX8_thing_102 : decode cX8_thing 102 = .ok (.aload_n 0, 1) := by decide +kernel
theorem dX8_thing_103 : decode cX8_thing 103 = .ok (.dup, 1) := by decide +kernel
theorem dX8_thing_104 : decode cX8_thing 104 = .ok (.getfield 143, 3) := by decide +kernel
theorem dX8_thing_107 : decode cX8_thing 107 = .ok (.iconst 1, 1) := by decide +kernel
theorem dX8_thing_108 : decode cX8_thing 108 = .ok (.iadd, 1) := by decide +kernel
theorem dX8_thing_109 : decode cX8_thing 109 = .ok (.putfield 143, 3) := by decide +kernel
theorem dX8_thing_112 : decode cX8_thing 112 = .ok (.aload_n 0, 1) := by decide +kernel
theorem dX8_thing_113 : decode cX8_thing 113 = .ok (.getfield 211, 3) := by decide +kernel
theorem dX8_thing_116 : decode cX8_thing 116 = .ok (.ifCond .eq 15, 3) := by decide +kernel
theorem dX8_thing_119 : decode cX8_thing 119 = .ok (.aload_n 0, 1) := by decide +kernel
theorem dX8_thing_120 : decode cX8_thing 120 = .ok (.getfield 46, 3) := by decide +kernel
theorem dX8_thing_123 : decode cX8_thing 123 = .ok (.iload_n 2, 1) := by decide +kernel
theorem dX8_thing_124 : decode cX8_thing 124 = .ok (.invokestatic 208, 3) := by decide +kernel
theorem dX8_thing_127 : decode cX8_thing 127 = .ok (.iaload, 1) := by decide +kernel
theorem dX8_thing_128 : decode cX8_thing 128 = .ok (.goto 4, 3) := by decide +kernel
theorem dX8_thing_131 : decode cX8_thing 131 = .ok (.iconst 0, 1) := by decide +kernel
theorem dX8_thing_132 : decode cX8_thing 132 = .ok (.ireturn, 1) := by decide +kernel
theorem dX8_tired_0 : decode cX8_tired 0 = .ok (.iconst 0, 1) := by decide +kernel
theorem dX8_tired_1 : decode cX8_tired 1 = .ok (.istore_n 2, 1) := by decide +kernel
theorem dX8_tired_2 : decode cX8_tired 2 = .ok (.iconst 0, 1) := by decide +kernel
theorem dX8_tired_3 : decode cX8_tired 3 = .ok (.istore_n 3, 1) := by decide +kernel
theorem dX8_tired_4 : decode cX8_tired 4 = .ok (.iload_n 3, 1) := by decide +kernel
theorem dX8_tired_5 : decode cX8_tired 5 = .ok (.aload_n 0, 1) := by decide +kernel
theorem dX8_tired_6 : decode cX8_tired 6 = .ok (.getfield 120, 3) := by decide +kernel
theorem dX8_tired_9 : decode cX8_tired 9 = .ok (.if_icmp .ge 18, 3) := by decide +kernel
theorem dX8_tired_12 : decode cX8_tired 12 = .ok (.iload_n 2, 1) := by decide +kernel
theorem dX8_tired_13 : decode cX8_tired 13 = .ok (.aload_n 1, 1) := by decide +kernel
theorem dX8_tired_14 : decode cX8_tired 14 = .ok (.bipush 8, 2) := by decide +kernel
theorem dX8_tired_16 : decode cX8_tired 16 = .ok (.iload_n 3, 1) := by decide +kernel
theorem dX8_tired_17 : decode cX8_tired 17 = .ok (.iadd, 1) := by decide +kernel
theorem dX8_tired_18 : decode cX8_tired 18 = .ok (.iaload, 1) := by decide +kernel
theorem dX8_tired_19 : decode cX8_tired 19 = .ok (.iadd, 1) := by decide +kernel
theorem dX8_tired_20 : decode cX8_tired 20 = .ok (.istore_n 2, 1) := by decide +kernel
theorem dX8_tired_21 : decode cX8_tired 21 = .ok (.iinc 3 1, 3) := by decide +kernel
theorem dX8_tired_24 : decode cX8_tired 24 = .ok (.goto (-20), 3) := by decide +kernel
theorem dX8_tired_27 : decode cX8_tired 27 = .ok (.iload_n 2, 1) := by decide +kernel
theorem dX8_tired_28 : decode cX8_tired 28 = .ok (.ireturn, 1) := by decide +kernel
theorem dX8_trade_0 : decode cX8_trade 0 = .ok (.aload_n 0, 1) := by decide +kernel
theorem dX8_trade_1 : decode cX8_trade 1 = .ok (.iconst 0, 1) := by decide +kernel
theorem dX8_trade_2 : decode cX8_trade 2 = .ok (.putfield 114, 3) := by decide +kernel
theorem dX8_trade_5 : decode cX8_trade 5 = .ok (.aload_n 0, 1) := by decide +kernel
theorem dX8_trade_6 : decode cX8_trade 6 = .ok (.getfield 13, 3) := by decide +kernel
theorem dX8_trade_9 : decode cX8_trade 9 = .ok (.iconst 1, 1) := by decide +kernel
theorem dX8_trade_10 : decode cX8_trade 10 = .ok (.if_icmp .ne 6, 3) := by decide +kernel
theorem dX8_trade_13 : decode cX8_trade 13 = .ok (.bipush (-2), 2) := by decide +kernel
theorem dX8_trade_15 : decode cX8_trade 15 = .ok (.ireturn, 1) := by decide +kernel
theorem dX8_trade_16 : decode cX8_trade 16 = .ok (.ldc 88, 2) := by decide +kernel
theorem dX8_trade_18 : decode cX8_trade 18 = .ok (.istore_n 1, 1) := by decide +kernel
theorem dX8_trade_19 : decode cX8_trade 19 = .ok (.iconst (-1), 1) := by decide +kernel
theorem dX8_trade_20 : decode cX8_trade 20 = .ok (.istore_n 2, 1) := by decide +kernel
theorem dX8_trade_21 : decode cX8_trade 21 = .ok (.iconst (-1), 1) := by decide +kernel
theorem dX8_trade_22 : decode cX8_trade 22 = .ok (.istore_n 3, 1) := by decide +kernel
theorem dX8_trade_23 : decode cX8_trade 23 = .ok (.iconst 0, 1) := by decide +kernel
theorem dX8_trade_24 : decode cX8_trade 24 = .ok (.istore 4, 2) := by decide +kernel
theorem dX8_trade_26 : decode cX8_trade 26 = .ok (.iload 4, 2) := by decide +kernel
theorem dX8_trade_28 : decode cX8_trade 28 = .ok (.aload_n 0, 1) := by decide +kernel
theorem dX8_trade_29 : decode cX8_trade 29 = .ok (.getfield 13, 3) := by decide +kernel
theorem dX8_trade_32 : decode cX8_trade 32 = .ok (.if_icmp .ge 106, 3) := by decide +kernel
theorem dX8_trade_35 : decode cX8_trade 35 = .ok (.iload 4, 2) := by decide +kernel
theorem dX8_trade_37 : decode cX8_trade 37 = .ok (.iconst 1, 1) := by decide +kernel
theorem dX8_trade_38 : decode cX8_trade 38 = .ok (.iadd, 1) := by decide +kernel
theorem dX8_trade_39 : decode cX8_trade 39 = .ok (.istore 5, 2) := by decide +kernel
theorem dX8_trade_41 : decode cX8_trade 41 = .ok (.iload 5, 2) := by decide +kernel
theorem dX8_trade_43 : decode cX8_trade 43 = .ok (.aload_n 0, 1) := by decide +kernel
theorem dX8_trade_44 : decode cX8_trade 44 = .ok (.getfield 13, 3) := by decide +kernel
theorem dX8_trade_47 : decode cX8_trade 47 = .ok (.if_icmp .ge 85, 3) := by decide +kernel
theorem dX8_trade_50 : decode cX8_trade 50 = .ok (.aload_n 0, 1) := by decide +kernel
theorem dX8_trade_51 : decode cX8_trade 51 = .ok (.getfield 9, 3) := by decide +kernel
theorem dX8_trade_54 : decode cX8_trade 54 = .ok (.aload_n 0, 1) := by decide +kernel
theorem dX8_trade_55 : decode cX8_trade 55 = .ok (.getfield 55, 3) := by decide +kernel
theorem dX8_trade_58 : decode cX8_trade 58 = .ok (.iconst 0, 1) := by decide +kernel
theorem dX8_trade_59 : decode cX8_trade 59 = .ok (.invokestatic 249, 3) := by decide +kernel
theorem dX8_trade_62 : decode cX8_trade 62 = .ok (.aload_n 0, 1) := by decide +kernel
theorem dX8_trade_63 : decode cX8_trade 63 = .ok (.getfield 55, 3) := by decide +kernel
theorem dX8_trade_66 : decode cX8_trade 66 = .ok (.iload 4, 2) := by decide +kernel
theorem dX8_trade_68 : decode cX8_trade 68 = .ok (.aload_n 0, 1) := by decide +kernel
theorem dX8_trade_69 : decode cX8_trade 69 = .ok (.getfield 9, 3) := by decide +kernel
theorem dX8_trade_72 : decode cX8_trade 72 = .ok (.iload 5, 2) := by decide +kernel
theorem dX8_trade_74 : decode cX8_trade 74 = .ok (.iaload, 1) := by decide +kernel
theorem dX8_trade_75 : decode cX8_trade 75 = .ok (.iastore, 1) := by decide +kernel
theorem dX8_trade_76 : decode cX8_trade 76 = .ok (.aload_n 0, 1) := by decide +kernel
theorem dX8_trade_77 : decode cX8_trade 77 = .ok (.getfield 55, 3) := by decide +kernel
theorem dX8_trade_80 : decode cX8_trade 80 = .ok (.iload 5, 2) := by decide +kernel
theorem dX8_trade_82 : decode cX8_trade 82 = .ok (.aload_n 0, 1) := by decide +kernel
theorem dX8_trade_83 : decode cX8_trade 83 = .ok (.getfield 9, 3) := by decide +kernel
theorem dX8_trade_86 : decode cX8_trade 86 = .ok (.iload 4, 2) := by decide +kernel
theorem dX8_trade_88 : decode cX8_trade 88 = .ok (.iaload, 1) := by decide +kernel
theorem dX8_trade_89 : decode cX8_trade 89 = .ok (.iastore, 1) := by decide +kernel
theorem dX8_trade_90 : decode cX8_trade 90 = .ok (.aload_n 0, 1) := by decide +kernel
theorem dX8_trade_91 : decode cX8_trade 91 = .ok (.aload_n 0, 1) := by decide +kernel
theorem dX8_trade_92 : decode cX8_trade 92 = .ok (.getfield 55, 3) := by decide +kernel
theorem dX8_trade_95 : decode cX8_trade 95 = .ok (.invokevirtual 277, 3) := by decide +kernel
theorem dX8_trade_98 : decode cX8_trade 98 = .ok (.aload_n 0, 1) := by decide +kernel
theorem dX8_trade_99 : decode cX8_trade 99 = .ok (.getfield 265, 3) := by decide +kernel
theorem dX8_trade_102 : decode cX8_trade 102 = .ok (.invokestatic 221, 3) := by decide +kernel
theorem dX8_trade_105 : decode cX8_trade 105 = .ok (.iload_n 1, 1) := by decide +kernel
theorem dX8_trade_106 : decode cX8_trade 106 = .ok (.if_icmp .lt 6, 3) := by decide +kernel
theorem dX8_trade_109 : decode cX8_trade 109 = .ok (.goto 17, 3) := by decide +kernel
theorem dX8_trade_112 : decode cX8_trade 112 = .ok (.aload_n 0, 1) := by decide +kernel
theorem dX8_trade_113 : decode cX8_trade 113 = .ok (.getfield 265, 3) := by decide +kernel
theorem dX8_trade_116 : decode cX8_trade 116 = .ok (.invokestatic 221, 3) := by decide +kernel
theorem dX8_trade_119 : decode cX8_trade 119 = .ok (.istore_n 1, 1) := by decide +kernel
theorem dX8_trade_120 : decode cX8_trade 120 = .ok (.iload 4, 2) := by decide +kernel
theorem dX8_trade_122 : decode cX8_trade 122 = .ok (.istore_n 2, 1) := by decide +kernel
theorem dX8_trade_123 : decode cX8_trade 123 = .ok (.iload 5, 2) := by decide +kernel
theorem dX8_trade_125 : decode cX8_trade 125 = .ok (.istore_n 3, 1) := by decide +kernel
theorem dX8_trade_126 : decode cX8_trade 126 = .ok (.iinc 5 1, 3) := by decide +kernel
theorem dX8_trade_129 : decode cX8_trade 129 = .ok (.goto (-88), 3) := by decide +kernel
theorem dX8_trade_132 : decode cX8_trade 132 = .ok (.iinc 4 1, 3) := by decide +kernel
theorem dX8_trade_135 : decode cX8_trade 135 = .ok (.goto (-109), 3) := by decide +kernel
theorem dX8_trade_138 : decode cX8_trade 138 = .ok (.aload_n 0, 1) := by decide +kernel
theorem dX8_trade_139 : decode cX8_trade 139 = .ok (.getfield 9, 3) := by decide +kernel
theorem dX8_trade_142 : decode cX8_trade 142 = .ok (.aload_n 0, 1) := by decide +kernel
theorem dX8_trade_143 : decode cX8_trade 143 = .ok (.getfield 55, 3) := by decide +kernel
theorem dX8_trade_146 : decode cX8_trade 146 = .ok (.iconst 0, 1) := by decide +kernel
theorem dX8_trade_147 : decode cX8_trade 147 = .ok (.invokestatic 249, 3) := by decide +kernel
theorem dX8_trade_150 : decode cX8_trade 150 = .ok (.aload_n 0, 1) := by decide +kernel
theorem dX8_trade_151 : decode cX8_trade 151 = .ok (.aload_n 0, 1) := by decide +kernel
theorem dX8_trade_152 : decode cX8_trade 152 = .ok (.getfield 55, 3) := by decide +kernel
theorem dX8_trade_155 : decode cX8_trade 155 = .ok (.invokevirtual 277, 3) := by decide +kernel
theorem dX8_trade_158 : decode cX8_trade 158 = .ok (.aload_n 0, 1) := by decide +kernel
theorem dX8_trade_159 : decode cX8_trade 159 = .ok (.iconst 0, 1) := by decide +kernel
theorem dX8_trade_160 : decode cX8_trade 160 = .ok (.putfield 117, 3) := by decide +kernel
theorem dX8_trade_163 : decode cX8_trade 163 = .ok (.aload_n 0, 1) := by decide +kernel
theorem dX8_trade_164 : decode cX8_trade 164 = .ok (.iload_n 2, 1) := by decide +kernel
theorem dX8_trade_165 : decode cX8_trade 165 = .ok (.i2l, 1) := by decide +kernel
theorem dX8_trade_166 : decode cX8_trade 166 = .ok (.invokevirtual 284, 3) := by decide +kernel
theorem dX8_trade_169 : decode cX8_trade 169 = .ok (.aload_n 0, 1) := by decide +kernel
theorem dX8_trade_170 : decode cX8_trade 170 = .ok (.iload_n 3, 1) := by decide +kernel
theorem dX8_trade_171 : decode cX8_trade 171 = .ok (.i2l, 1) := by decide +kernel
theorem dX8_trade_172 : decode cX8_trade 172 = .ok (.invokevirtual 284, 3) := by decide +kernel
theorem dX8_trade_175 : decode cX8_trade 175 = .ok (.aload_n 0, 1) := by decide +kernel
theorem dX8_trade_176 : decode cX8_trade 176 = .ok (.aload_n 0, 1) := by decide +kernel
theorem dX8_trade_177 : decode cX8_trade 177 = .ok (.getfield 265, 3) := by decide +kernel
theorem dX8_trade_180 : decode cX8_trade 180 = .ok (.invokestatic 221, 3) := by decide +kernel
theorem dX8_trade_183 : decode cX8_trade 183 = .ok (.i2l, 1) := by decide +kernel
theorem dX8_trade_184 : decode cX8_trade 184 = .ok (.invokevirtual 284, 3) := by decide +kernel
theorem dX8_trade_187 : decode cX8_trade 187 = .ok (.iload_n 1, 1) := by decide +kernel
theorem dX8_trade_188 : decode cX8_trade 188 = .ok (.ireturn, 1) := by decide +kernel
theorem dX8_undo_0 : decode cX8_undo 0 = .ok (.aload_n 0, 1) := by decide +kernel
theorem dX8_undo_1 : decode cX8_undo 1 = .ok (.iconst 0, 1) := by decide +kernel
theorem dX8_undo_2 : decode cX8_undo 2 = .ok (.putfield 114, 3) := by decide +kernel
theorem dX8_undo_5 : decode cX8_undo 5 = .ok (.aload_n 0, 1) := by decide +kernel
theorem dX8_undo_6 : decode cX8_undo 6 = .ok (.getfield 182, 3) := by decide +kernel
theorem dX8_undo_9 : decode cX8_undo 9 = .ok (.ifCond .ne 5, 3) := by decide +kernel
theorem dX8_undo_12 : decode cX8_undo 12 = .ok (.iconst (-1), 1) := by decide +kernel
theorem dX8_undo_13 : decode cX8_undo 13 = .ok (.ireturn, 1) := by decide +kernel
theorem dX8_undo_14 : decode cX8_undo 14 = .ok (.aload_n 0, 1) := by decide +kernel
theorem dX8_undo_15 : decode cX8_undo 15 = .ok (.dup, 1) := by decide +kernel
theorem dX8_undo_16 : decode cX8_undo 16 = .ok (.getfield 182, 3) := by decide +kernel
theorem dX8_undo_19 : decode cX8_undo 19 = .ok (.iconst 1, 1) := by decide +kernel
theorem dX8_undo_20 : decode cX8_undo 20 = .ok (.isub, 1) := by decide +kernel
theorem dX8_undo_21 : decode cX8_undo 21 = .ok (.putfield 182, 3) := by decide +kernel
theorem dX8_undo_24 : decode cX8_undo 24 = .ok (.iconst 0, 1) := by decide +kernel
theorem dX8_undo_25 : decode cX8_undo 25 = .ok (.istore_n 1, 1) := by decide +kernel
theorem dX8_undo_26 : decode cX8_undo 26 = .ok (.iload_n 1, 1) := by decide +kernel
theorem dX8_undo_27 : decode cX8_undo 27 = .ok (.bipush 27, 2) := by decide +kernel
theorem dX8_undo_29 : decode cX8_undo 29 = .ok (.if_icmp .ge 29, 3) := by decide +kernel
theorem dX8_undo_32 : decode cX8_undo 32 = .ok (.aload_n 0, 1) := by decide +kernel
theorem dX8_undo_33 : decode cX8_undo 33 = .ok (.getfield 9, 3) := by decide +kernel
theorem dX8_undo_36 : decode cX8_undo 36 = .ok (.iload_n 1, 1) := by decide +kernel
theorem dX8_undo_37 : decode cX8_undo 37 = .ok (.aload_n 0, 1) := by decide +kernel
theorem dX8_undo_38 : decode cX8_undo 38 = .ok (.getfield 49, 3) := by decide +kernel
theorem dX8_undo_41 : decode cX8_undo 41 = .ok (.bipush 27, 2) := by decide +kernel
theorem dX8_undo_43 : decode cX8_undo 43 = .ok (.aload_n 0, 1) := by decide +kernel
theorem dX8_undo_44 : decode cX8_undo 44 = .ok (.getfield 182, 3) := by decide +kernel
theorem dX8_undo_47 : decode cX8_undo 47 = .ok (.imul, 1) := by decide +kernel
theorem dX8_undo_48 : decode cX8_undo 48 = .ok (.iload_n 1, 1) := by decide +kernel
theorem dX8_undo_49 : decode cX8_undo 49 = .ok (.iadd, 1) := by decide +kernel
theorem dX8_undo_50 : decode cX8_undo 50 = .ok (.iaload, 1) := by decide +kernel
theorem dX8_undo_51 : decode cX8_undo 51 = .ok (.iastore, 1) := by decide +kernel
theorem dX8_undo_52 : decode cX8_undo 52 = .ok (.iinc 1 1, 3) := by decide +kernel
theorem dX8_undo_55 : decode cX8_undo 55 = .ok (.goto (-29), 3) := by decide +kernel
theorem dX8_undo_58 : decode cX8_undo 58 = .ok (.aload_n 0, 1) := by decide +kernel
theorem dX8_undo_59 : decode cX8_undo 59 = .ok (.getfield 182, 3) := by decide +kernel
theorem dX8_undo_62 : decode cX8_undo 62 = .ok (.ireturn, 1) := by decide +kernel
theorem dX8_vigil_0 : decode cX8_vigil 0 = .ok (.aload_n 0, 1) := by decide +kernel
theorem dX8_vigil_1 : decode cX8_vigil 1 = .ok (.iconst 0, 1) := by decide +kernel
theorem dX8_vigil_2 : decode cX8_vigil 2 = .ok (.putfield 114, 3) := by decide +kernel
theorem dX8_vigil_5 : decode cX8_vigil 5 = .ok (.iload_n 1, 1) := by decide +kernel
theorem dX8_vigil_6 : decode cX8_vigil 6 = .ok (.iconst 0, 1) := by decide +kernel
theorem dX8_vigil_7 : decode cX8_vigil 7 = .ok (.bipush 60, 2) := by decide +kernel
theorem dX8_vigil_9 : decode cX8_vigil 9 = .ok (.invokestatic 123, 3) := by decide +kernel
theorem dX8_vigil_12 : decode cX8_vigil 12 = .ok (.ifCond .ne 5, 3) := by decide +kernel
theorem dX8_vigil_15 : decode cX8_vigil 15 = .ok (.iconst (-1), 1) := by decide +kernel
theorem dX8_vigil_16 : decode cX8_vigil 16 = .ok (.ireturn, 1) := by decide +kernel
theorem dX8_vigil_17 : decode cX8_vigil 17 = .ok (.aload_n 0, 1) := by decide +kernel
theorem dX8_vigil_18 : decode cX8_vigil 18 = .ok (.getfield 9, 3) := by decide +kernel
theorem dX8_vigil_21 : decode cX8_vigil 21 = .ok (.aload_n 0, 1) := by decide +kernel
theorem dX8_vigil_22 : decode cX8_vigil 22 = .ok (.getfield 55, 3) := by decide +kernel
theorem dX8_vigil_25 : decode cX8_vigil 25 = .ok (.iconst 0, 1) := by decide +kernel
theorem dX8_vigil_26 : decode cX8_vigil 26 = .ok (.invokestatic 249, 3) := by decide +kernel
theorem dX8_vigil_29 : decode cX8_vigil 29 = .ok (.iconst 0, 1) := by decide +kernel
theorem dX8_vigil_30 : decode cX8_vigil 30 = .ok (.istore_n 2, 1) := by decide +kernel
theorem dX8_vigil_31 : decode cX8_vigil 31 = .ok (.iconst (-1), 1) := by decide +kernel
theorem dX8_vigil_32 : decode cX8_vigil 32 = .ok (.istore_n 3, 1) := by decide +kernel
theorem dX8_vigil_33 : decode cX8_vigil 33 = .ok (.iconst 0, 1) := by decide +kernel
theorem dX8_vigil_34 : decode cX8_vigil 34 = .ok (.istore 4, 2) := by decide +kernel
theorem dX8_vigil_36 : decode cX8_vigil 36 = .ok (.iconst 0, 1) := by decide +kernel
theorem dX8_vigil_37 : decode cX8_vigil 37 = .ok (.istore 5, 2) := by decide +kernel
theorem dX8_vigil_39 : decode cX8_vigil 39 = .ok (.iload 5, 2) := by decide +kernel
theorem dX8_vigil_41 : decode cX8_vigil 41 = .ok (.iload_n 1, 1) := by decide +kernel
theorem dX8_vigil_42 : decode cX8_vigil 42 = .ok (.if_icmp .ge 54, 3) := by decide +kernel
theorem dX8_vigil_45 : decode cX8_vigil 45 = .ok (.aload_n 0, 1) := by decide +kernel
theorem dX8_vigil_46 : decode cX8_vigil 46 = .ok (.aload_n 0, 1) := by decide +kernel
theorem dX8_vigil_47 : decode cX8_vigil 47 = .ok (.getfield 55, 3) := by decide +kernel
theorem dX8_vigil_50 : decode cX8_vigil 50 = .ok (.invokevirtual 277, 3) := by decide +kernel
theorem dX8_vigil_53 : decode cX8_vigil 53 = .ok (.aload_n 0, 1) := by decide +kernel
theorem dX8_vigil_54 : decode cX8_vigil 54 = .ok (.getfield 265, 3) := by decide +kernel
theorem dX8_vigil_57 : decode cX8_vigil 57 = .ok (.ifCond .ne 10, 3) := by decide +kernel
theorem dX8_vigil_60 : decode cX8_vigil 60 = .ok (.iload 4, 2) := by decide +kernel
theorem dX8_vigil_62 : decode cX8_vigil 62 = .ok (.iconst 1, 1) := by decide +kernel
theorem dX8_vigil_63 : decode cX8_vigil 63 = .ok (.iadd, 1) := by decide +kernel
theorem dX8_vigil_64 : decode cX8_vigil 64 = .ok (.goto 4, 3) := by decide +kernel
theorem dX8_vigil_67 : decode cX8_vigil 67 = .ok (.iconst 0, 1) := by decide +kernel
theorem dX8_vigil_68 : decode cX8_vigil 68 = .ok (.istore 4, 2) := by decide +kernel
theorem dX8_vigil_70 : decode cX8_vigil 70 = .ok (.iload 4, 2) := by decide +kernel
theorem dX8_vigil_72 : decode cX8_vigil 72 = .ok (.iload_n 2, 1) := by decide +kernel
theorem dX8_vigil_73 : decode cX8_vigil 73 = .ok (.if_icmp .gt 6, 3) := by decide +kernel
theorem dX8_vigil_76 : decode cX8_vigil 76 = .ok (.goto 14, 3) := by decide +kernel
theorem dX8_vigil_79 : decode cX8_vigil 79 = .ok (.iload 4, 2) := by decide +kernel
theorem dX8_vigil_81 : decode cX8_vigil 81 = .ok (.istore_n 2, 1) := by decide +kernel
theorem dX8_vigil_82 : decode cX8_vigil 82 = .ok (.iload 5, 2) := by decide +kernel
theorem dX8_vigil_84 : decode cX8_vigil 84 = .ok (.iload 4, 2) := by decide +kernel
theorem dX8_vigil_86 : decode cX8_vigil 86 = .ok (.isub, 1) := by decide +kernel
theorem dX8_vigil_87 : decode cX8_vigil 87 = .ok (.iconst 1, 1) := by decide +kernel
theorem dX8_vigil_88 : decode cX8_vigil 88 = .ok (.iadd, 1) := by decide +kernel
theorem dX8_vigil_89 : decode cX8_vigil 89 = .ok (.istore_n 3, 1) := by decide +kernel
theorem dX8_vigil_90 : decode cX8_vigil 90 = .ok (.iinc 5 1, 3) := by decide +kernel
theorem dX8_vigil_93 : decode cX8_vigil 93 = .ok (.goto (-54), 3) := by decide +kernel
theorem dX8_vigil_96 : decode cX8_vigil 96 = .ok (.aload_n 0, 1) := by decide +kernel
theorem dX8_vigil_97 : decode cX8_vigil 97 = .ok (.iconst 0, 1) := by decide +kernel
theorem dX8_vigil_98 : decode cX8_vigil 98 = .ok (.putfield 117, 3) := by decide +kernel
theorem dX8_vigil_101 : decode cX8_vigil 101 = .ok (.aload_n 0, 1) := by decide +kernel
theorem dX8_vigil_102 : decode cX8_vigil 102 = .ok (.iload_n 3, 1) := by decide +kernel
theorem dX8_vigil_103 : decode cX8_vigil 103 = .ok (.i2l, 1) := by decide +kernel
theorem dX8_vigil_104 : decode cX8_vigil 104 = .ok (.invokevirtual 284, 3) := by decide +kernel
theorem dX8_vigil_107 : decode cX8_vigil 107 = .ok (.iload_n 2, 1) := by decide +kernel
theorem dX8_vigil_108 : decode cX8_vigil 108 = .ok (.ireturn, 1) := by decide +kernel
theorem dX8_wasRight_0 : decode cX8_wasRight 0 = .ok (.aload_n 0, 1) := by decide +kernel
theorem dX8_wasRight_1 : decode cX8_wasRight 1 = .ok (.getfield 143, 3) := by decide +kernel
theorem dX8_wasRight_4 : decode cX8_wasRight 4 = .ok (.aload_n 0, 1) := by decide +kernel
theorem dX8_wasRight_5 : decode cX8_wasRight 5 = .ok (.getfield 137, 3) := by decide +kernel
theorem dX8_wasRight_8 : decode cX8_wasRight 8 = .ok (.if_icmp .ge 11, 3) := by decide +kernel
theorem dX8_wasRight_11 : decode cX8_wasRight 11 = .ok (.aload_n 0, 1) := by decide +kernel
theorem dX8_wasRight_12 : decode cX8_wasRight 12 = .ok (.aload_n 0, 1) := by decide +kernel
theorem dX8_wasRight_13 : decode cX8_wasRight 13 = .ok (.getfield 143, 3) := by decide +kernel
theorem dX8_wasRight_16 : decode cX8_wasRight 16 = .ok (.invokevirtual 165, 3) := by decide +kernel
theorem dX8_wasRight_19 : decode cX8_wasRight 19 = .ok (.aload_n 0, 1) := by decide +kernel
theorem dX8_wasRight_20 : decode cX8_wasRight 20 = .ok (.invokevirtual 153, 3) := by decide +kernel
theorem dX8_wasRight_23 : decode cX8_wasRight 23 = .ok (.ireturn, 1) := by decide +kernel
theorem dX8_well_0 : decode cX8_well 0 = .ok (.iconst 1, 1) := by decide +kernel
theorem dX8_well_1 : decode cX8_well 1 = .ok (.aload_n 0, 1) := by decide +kernel
theorem dX8_well_2 : decode cX8_well 2 = .ok (.getfield 120, 3) := by decide +kernel
theorem dX8_well_5 : decode cX8_well 5 = .ok (.ishl, 1) := by decide +kernel
theorem dX8_well_6 : decode cX8_well 6 = .ok (.iconst 1, 1) := by decide +kernel
theorem dX8_well_7 : decode cX8_well 7 = .ok (.isub, 1) := by decide +kernel
theorem dX8_well_8 : decode cX8_well 8 = .ok (.aload_n 0, 1) := by decide +kernel
theorem dX8_well_9 : decode cX8_well 9 = .ok (.aload_n 0, 1) := by decide +kernel
theorem dX8_well_10 : decode cX8_well 10 = .ok (.getfield 9, 3) := by decide +kernel
theorem dX8_well_13 : decode cX8_well 13 = .ok (.invokevirtual 261, 3) := by decide +kernel
theorem dX8_well_16 : decode cX8_well 16 = .ok (.iconst (-1), 1) := by decide +kernel
theorem dX8_well_17 : decode cX8_well 17 = .ok (.ixor, 1) := by decide +kernel
theorem dX8_well_18 : decode cX8_well 18 = .ok (.iand, 1) := by decide +kernel
theorem dX8_well_19 : decode cX8_well 19 = .ok (.ireturn, 1) := by decide +kernel
theorem dX8_year_0 : decode cX8_year 0 = .ok (.aload_n 0, 1) := by decide +kernel
theorem dX8_year_1 : decode cX8_year 1 = .ok (.iconst 0, 1) := by decide +kernel
theorem dX8_year_2 : decode cX8_year 2 = .ok (.putfield 114, 3) := by decide +kernel
theorem dX8_year_5 : decode cX8_year 5 = .ok (.aload_n 0, 1) := by decide +kernel
theorem dX8_year_6 : decode cX8_year 6 = .ok (.bipush 60, 2) := by decide +kernel
theorem dX8_year_8 : decode cX8_year 8 = .ok (.invokevirtual 173, 3) := by decide +kernel
theorem dX8_year_11 : decode cX8_year 11 = .ok (.iconst 0, 1) := by decide +kernel
theorem dX8_year_12 : decode cX8_year 12 = .ok (.istore_n 1, 1) := by decide +kernel
theorem dX8_year_13 : decode cX8_year 13 = .ok (.aload_n 0, 1) := by decide +kernel
theorem dX8_year_14 : decode cX8_year 14 = .ok (.invokevirtual 153, 3) := by decide +kernel
theorem dX8_year_17 : decode cX8_year 17 = .ok (.ifCond .eq 27, 3) := by decide +kernel
theorem dX8_year_20 : decode cX8_year 20 = .ok (.aload_n 0, 1) := by decide +kernel
theorem dX8_year_21 : decode cX8_year 21 = .ok (.getfield 143, 3) := by decide +kernel
theorem dX8_year_24 : decode cX8_year 24 = .ok (.aload_n 0, 1) := by decide +kernel
theorem dX8_year_25 : decode cX8_year 25 = .ok (.getfield 137, 3) := by decide +kernel
theorem dX8_year_28 : decode cX8_year 28 = .ok (.if_icmp .ge 16, 3) := by decide +kernel
theorem dX8_year_31 : decode cX8_year 31 = .ok (.aload_n 0, 1) := by decide +kernel
theorem dX8_year_32 : decode cX8_year 32 = .ok (.iconst 3, 1) := by decide +kernel
theorem dX8_year_33 : decode cX8_year 33 = .ok (.iload_n 1, 1) := by decide +kernel
theorem dX8_year_34 : decode cX8_year 34 = .ok (.imul, 1) := by decide +kernel
theorem dX8_year_35 : decode cX8_year 35 = .ok (.invokevirtual 291, 3) := by decide +kernel
theorem dX8_year_38 : decode cX8_year 38 = .ok (.iinc 1 1, 3) := by decide +kernel
theorem dX8_year_41 : decode cX8_year 41 = .ok (.goto (-28), 3) := by decide +kernel
theorem dX8_year_44 : decode cX8_year 44 = .ok (.aload_n 0, 1) := by decide +kernel
theorem dX8_year_45 : decode cX8_year 45 = .ok (.invokevirtual 179, 3) := by decide +kernel
theorem dX8_year_48 : decode cX8_year 48 = .ok (.ifCond .ne 10, 3) := by decide +kernel
theorem dX8_year_51 : decode cX8_year 51 = .ok (.iconst (-1), 1) := by decide +kernel
theorem dX8_year_52 : decode cX8_year 52 = .ok (.aload_n 0, 1) := by decide +kernel
theorem dX8_year_53 : decode cX8_year 53 = .ok (.getfield 146, 3) := by decide +kernel
theorem dX8_year_56 : decode cX8_year 56 = .ok (.isub, 1) := by decide +kernel
theorem dX8_year_57 : decode cX8_year 57 = .ok (.ireturn, 1) := by decide +kernel
theorem dX8_year_58 : decode cX8_year 58 = .ok (.aload_n 0, 1) := by decide +kernel
theorem dX8_year_59 : decode cX8_year 59 = .ok (.getfield 9, 3) := by decide +kernel
theorem dX8_year_62 : decode cX8_year 62 = .ok (.aload_n 0, 1) := by decide +kernel
theorem dX8_year_63 : decode cX8_year 63 = .ok (.getfield 52, 3) := by decide +kernel
theorem dX8_year_66 : decode cX8_year 66 = .ok (.iconst 0, 1) := by decide +kernel
theorem dX8_year_67 : decode cX8_year 67 = .ok (.invokestatic 249, 3) := by decide +kernel
theorem dX8_year_70 : decode cX8_year 70 = .ok (.iconst 0, 1) := by decide +kernel
theorem dX8_year_71 : decode cX8_year 71 = .ok (.istore_n 2, 1) := by decide +kernel
theorem dX8_year_72 : decode cX8_year 72 = .ok (.iload_n 2, 1) := by decide +kernel
