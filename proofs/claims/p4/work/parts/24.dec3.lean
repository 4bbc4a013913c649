theorem dX7_priceByHard_23 : decode cX7_priceByHard 23 = .ok (.if_icmp .ge 24, 3) := by decide +kernel
theorem dX7_priceByHard_26 : decode cX7_priceByHard 26 = .ok (.aload_n 0, 1) := by decide +kernel
theorem dX7_priceByHard_27 : decode cX7_priceByHard 27 = .ok (.getfield 54, 3) := by decide +kernel
theorem dX7_priceByHard_30 : decode cX7_priceByHard 30 = .ok (.iload_n 1, 1) := by decide +kernel
theorem dX7_priceByHard_31 : decode cX7_priceByHard 31 = .ok (.iload_n 2, 1) := by decide +kernel
theorem dX7_priceByHard_32 : decode cX7_priceByHard 32 = .ok (.aload_n 0, 1) := by decide +kernel
theorem dX7_priceByHard_33 : decode cX7_priceByHard 33 = .ok (.iload_n 1, 1) := by decide +kernel
theorem dX7_priceByHard_34 : decode cX7_priceByHard 34 = .ok (.iload_n 2, 1) := by decide +kernel
theorem dX7_priceByHard_35 : decode cX7_priceByHard 35 = .ok (.invokevirtual 137, 3) := by decide +kernel
theorem dX7_priceByHard_38 : decode cX7_priceByHard 38 = .ok (.invokevirtual 440, 3) := by decide +kernel
theorem dX7_priceByHard_41 : decode cX7_priceByHard 41 = .ok (.iinc 2 1, 3) := by decide +kernel
theorem dX7_priceByHard_44 : decode cX7_priceByHard 44 = .ok (.goto (-29), 3) := by decide +kernel
theorem dX7_priceByHard_47 : decode cX7_priceByHard 47 = .ok (.iinc 1 1, 3) := by decide +kernel
theorem dX7_priceByHard_50 : decode cX7_priceByHard 50 = .ok (.goto (-48), 3) := by decide +kernel
theorem dX7_priceByHard_53 : decode cX7_priceByHard 53 = .ok (.return_, 1) := by decide +kernel
theorem dX7_priceByName_0 : decode cX7_priceByName 0 = .ok (.iconst 0, 1) := by decide +kernel
theorem dX7_priceByName_1 : decode cX7_priceByName 1 = .ok (.istore_n 1, 1) := by decide +kernel
theorem dX7_priceByName_2 : decode cX7_priceByName 2 = .ok (.iload_n 1, 1) := by decide +kernel
theorem dX7_priceByName_3 : decode cX7_priceByName 3 = .ok (.aload_n 0, 1) := by decide +kernel
theorem dX7_priceByName_4 : decode cX7_priceByName 4 = .ok (.getfield 19, 3) := by decide +kernel
theorem dX7_priceByName_7 : decode cX7_priceByName 7 = .ok (.getfield 154, 3) := by decide +kernel
theorem dX7_priceByName_10 : decode cX7_priceByName 10 = .ok (.if_icmp .ge 38, 3) := by decide +kernel
theorem dX7_priceByName_13 : decode cX7_priceByName 13 = .ok (.iconst 0, 1) := by decide +kernel
theorem dX7_priceByName_14 : decode cX7_priceByName 14 = .ok (.istore_n 2, 1) := by decide +kernel
theorem dX7_priceByName_15 : decode cX7_priceByName 15 = .ok (.iload_n 2, 1) := by decide +kernel
theorem dX7_priceByName_16 : decode cX7_priceByName 16 = .ok (.aload_n 0, 1) := by decide +kernel
theorem dX7_priceByName_17 : decode cX7_priceByName 17 = .ok (.getfield 19, 3) := by decide +kernel
theorem dX7_priceByName_20 : decode cX7_priceByName 20 = .ok (.getfield 141, 3) := by decide +kernel
theorem dX7_priceByName_23 : decode cX7_priceByName 23 = .ok (.if_icmp .ge 19, 3) := by decide +kernel
theorem dX7_priceByName_26 : decode cX7_priceByName 26 = .ok (.aload_n 0, 1) := by decide +kernel
theorem dX7_priceByName_27 : decode cX7_priceByName 27 = .ok (.getfield 54, 3) := by decide +kernel
theorem dX7_priceByName_30 : decode cX7_priceByName 30 = .ok (.iload_n 1, 1) := by decide +kernel
theorem dX7_priceByName_31 : decode cX7_priceByName 31 = .ok (.iload_n 2, 1) := by decide +kernel
theorem dX7_priceByName_32 : decode cX7_priceByName 32 = .ok (.iconst 0, 1) := by decide +kernel
theorem dX7_priceByName_33 : decode cX7_priceByName 33 = .ok (.invokevirtual 440, 3) := by decide +kernel
theorem dX7_priceByName_36 : decode cX7_priceByName 36 = .ok (.iinc 2 1, 3) := by decide +kernel
theorem dX7_priceByName_39 : decode cX7_priceByName 39 = .ok (.goto (-24), 3) := by decide +kernel
theorem dX7_priceByName_42 : decode cX7_priceByName 42 = .ok (.iinc 1 1, 3) := by decide +kernel
theorem dX7_priceByName_45 : decode cX7_priceByName 45 = .ok (.goto (-43), 3) := by decide +kernel
theorem dX7_priceByName_48 : decode cX7_priceByName 48 = .ok (.return_, 1) := by decide +kernel
theorem dX7_readSpare_0 : decode cX7_readSpare 0 = .ok (.aload_n 0, 1) := by decide +kernel
theorem dX7_readSpare_1 : decode cX7_readSpare 1 = .ok (.getfield 78, 3) := by decide +kernel
theorem dX7_readSpare_4 : decode cX7_readSpare 4 = .ok (.aload_n 0, 1) := by decide +kernel
theorem dX7_readSpare_5 : decode cX7_readSpare 5 = .ok (.getfield 10, 3) := by decide +kernel
theorem dX7_readSpare_8 : decode cX7_readSpare 8 = .ok (.invokevirtual 411, 3) := by decide +kernel
theorem dX7_readSpare_11 : decode cX7_readSpare 11 = .ok (.istore_n 1, 1) := by decide +kernel
theorem dX7_readSpare_12 : decode cX7_readSpare 12 = .ok (.aload_n 0, 1) := by decide +kernel
theorem dX7_readSpare_13 : decode cX7_readSpare 13 = .ok (.getfield 10, 3) := by decide +kernel
theorem dX7_readSpare_16 : decode cX7_readSpare 16 = .ok (.invokevirtual 94, 3) := by decide +kernel
theorem dX7_readSpare_19 : decode cX7_readSpare 19 = .ok (.iload_n 1, 1) := by decide +kernel
theorem dX7_readSpare_20 : decode cX7_readSpare 20 = .ok (.ireturn, 1) := by decide +kernel
theorem dX7_rests_0 : decode cX7_rests 0 = .ok (.iload_n 1, 1) := by decide +kernel
theorem dX7_rests_1 : decode cX7_rests 1 = .ok (.ifCond .lt 19, 3) := by decide +kernel
theorem dX7_rests_4 : decode cX7_rests 4 = .ok (.iload_n 1, 1) := by decide +kernel
theorem dX7_rests_5 : decode cX7_rests 5 = .ok (.bipush 10, 2) := by decide +kernel
theorem dX7_rests_7 : decode cX7_rests 7 = .ok (.if_icmp .ge 13, 3) := by decide +kernel
theorem dX7_rests_10 : decode cX7_rests 10 = .ok (.iload_n 2, 1) := by decide +kernel
theorem dX7_rests_11 : decode cX7_rests 11 = .ok (.ifCond .lt 9, 3) := by decide +kernel
theorem dX7_rests_14 : decode cX7_rests 14 = .ok (.iload_n 2, 1) := by decide +kernel
theorem dX7_rests_15 : decode cX7_rests 15 = .ok (.bipush 10, 2) := by decide +kernel
theorem dX7_rests_17 : decode cX7_rests 17 = .ok (.if_icmp .lt 5, 3) := by decide +kernel
theorem dX7_rests_20 : decode cX7_rests 20 = .ok (.iconst (-1), 1) := by decide +kernel
theorem dX7_rests_21 : decode cX7_rests 21 = .ok (.ireturn, 1) := by decide +kernel
theorem dX7_rests_22 : decode cX7_rests 22 = .ok (.iconst 0, 1) := by decide +kernel
theorem dX7_rests_23 : decode cX7_rests 23 = .ok (.istore_n 3, 1) := by decide +kernel
theorem dX7_rests_24 : decode cX7_rests 24 = .ok (.iconst 0, 1) := by decide +kernel
theorem dX7_rests_25 : decode cX7_rests 25 = .ok (.istore 4, 2) := by decide +kernel
theorem dX7_rests_27 : decode cX7_rests 27 = .ok (.iconst 0, 1) := by decide +kernel
theorem dX7_rests_28 : decode cX7_rests 28 = .ok (.istore 5, 2) := by decide +kernel
theorem dX7_rests_30 : decode cX7_rests 30 = .ok (.bipush 99, 2) := by decide +kernel
theorem dX7_rests_32 : decode cX7_rests 32 = .ok (.istore 6, 2) := by decide +kernel
theorem dX7_rests_34 : decode cX7_rests 34 = .ok (.iload 6, 2) := by decide +kernel
theorem dX7_rests_36 : decode cX7_rests 36 = .ok (.ifCond .lt 57, 3) := by decide +kernel
theorem dX7_rests_39 : decode cX7_rests 39 = .ok (.iload 6, 2) := by decide +kernel
theorem dX7_rests_41 : decode cX7_rests 41 = .ok (.bipush 10, 2) := by decide +kernel
theorem dX7_rests_43 : decode cX7_rests 43 = .ok (.idiv, 1) := by decide +kernel
theorem dX7_rests_44 : decode cX7_rests 44 = .ok (.iload 6, 2) := by decide +kernel
theorem dX7_rests_46 : decode cX7_rests 46 = .ok (.bipush 10, 2) := by decide +kernel
theorem dX7_rests_48 : decode cX7_rests 48 = .ok (.irem, 1) := by decide +kernel
theorem dX7_rests_49 : decode cX7_rests 49 = .ok (.iload_n 1, 1) := by decide +kernel
theorem dX7_rests_50 : decode cX7_rests 50 = .ok (.iload_n 2, 1) := by decide +kernel
theorem dX7_rests_51 : decode cX7_rests 51 = .ok (.invokestatic 377, 3) := by decide +kernel
theorem dX7_rests_54 : decode cX7_rests 54 = .ok (.ifCond .eq 33, 3) := by decide +kernel
theorem dX7_rests_57 : decode cX7_rests 57 = .ok (.iinc 3 1, 3) := by decide +kernel
theorem dX7_rests_60 : decode cX7_rests 60 = .ok (.iload 4, 2) := by decide +kernel
theorem dX7_rests_62 : decode cX7_rests 62 = .ok (.iload 6, 2) := by decide +kernel
theorem dX7_rests_64 : decode cX7_rests 64 = .ok (.bipush 10, 2) := by decide +kernel
theorem dX7_rests_66 : decode cX7_rests 66 = .ok (.idiv, 1) := by decide +kernel
theorem dX7_rests_67 : decode cX7_rests 67 = .ok (.iload 6, 2) := by decide +kernel
theorem dX7_rests_69 : decode cX7_rests 69 = .ok (.bipush 10, 2) := by decide +kernel
theorem dX7_rests_71 : decode cX7_rests 71 = .ok (.irem, 1) := by decide +kernel
theorem dX7_rests_72 : decode cX7_rests 72 = .ok (.if_icmp .lt 7, 3) := by decide +kernel
theorem dX7_rests_75 : decode cX7_rests 75 = .ok (.iconst 1, 1) := by decide +kernel
theorem dX7_rests_76 : decode cX7_rests 76 = .ok (.goto 4, 3) := by decide +kernel
theorem dX7_rests_79 : decode cX7_rests 79 = .ok (.iconst 0, 1) := by decide +kernel
theorem dX7_rests_80 : decode cX7_rests 80 = .ok (.iadd, 1) := by decide +kernel
theorem dX7_rests_81 : decode cX7_rests 81 = .ok (.istore 4, 2) := by decide +kernel
theorem dX7_rests_83 : decode cX7_rests 83 = .ok (.iload 6, 2) := by decide +kernel
theorem dX7_rests_85 : decode cX7_rests 85 = .ok (.istore 5, 2) := by decide +kernel
theorem dX7_rests_87 : decode cX7_rests 87 = .ok (.iinc 6 (-1), 3) := by decide +kernel
theorem dX7_rests_90 : decode cX7_rests 90 = .ok (.goto (-56), 3) := by decide +kernel
theorem dX7_rests_93 : decode cX7_rests 93 = .ok (.aload_n 0, 1) := by decide +kernel
theorem dX7_rests_94 : decode cX7_rests 94 = .ok (.getfield 61, 3) := by decide +kernel
theorem dX7_rests_97 : decode cX7_rests 97 = .ok (.invokevirtual 316, 3) := by decide +kernel
theorem dX7_rests_100 : decode cX7_rests 100 = .ok (.iload_n 3, 1) := by decide +kernel
theorem dX7_rests_101 : decode cX7_rests 101 = .ok (.ifCond .le 32, 3) := by decide +kernel
theorem dX7_rests_104 : decode cX7_rests 104 = .ok (.aload_n 0, 1) := by decide +kernel
theorem dX7_rests_105 : decode cX7_rests 105 = .ok (.getfield 61, 3) := by decide +kernel
theorem dX7_rests_108 : decode cX7_rests 108 = .ok (.iload 5, 2) := by decide +kernel
theorem dX7_rests_110 : decode cX7_rests 110 = .ok (.bipush 10, 2) := by decide +kernel
theorem dX7_rests_112 : decode cX7_rests 112 = .ok (.idiv, 1) := by decide +kernel
theorem dX7_rests_113 : decode cX7_rests 113 = .ok (.i2l, 1) := by decide +kernel
theorem dX7_rests_114 : decode cX7_rests 114 = .ok (.iload 5, 2) := by decide +kernel
theorem dX7_rests_116 : decode cX7_rests 116 = .ok (.bipush 10, 2) := by decide +kernel
theorem dX7_rests_118 : decode cX7_rests 118 = .ok (.irem, 1) := by decide +kernel
theorem dX7_rests_119 : decode cX7_rests 119 = .ok (.i2l, 1) := by decide +kernel
theorem dX7_rests_120 : decode cX7_rests 120 = .ok (.invokevirtual 208, 3) := by decide +kernel
theorem dX7_rests_123 : decode cX7_rests 123 = .ok (.aload_n 0, 1) := by decide +kernel
theorem dX7_rests_124 : decode cX7_rests 124 = .ok (.getfield 61, 3) := by decide +kernel
theorem dX7_rests_127 : decode cX7_rests 127 = .ok (.iload 4, 2) := by decide +kernel
theorem dX7_rests_129 : decode cX7_rests 129 = .ok (.i2l, 1) := by decide +kernel
theorem dX7_rests_130 : decode cX7_rests 130 = .ok (.invokevirtual 256, 3) := by decide +kernel
theorem dX7_rests_133 : decode cX7_rests 133 = .ok (.iload_n 3, 1) := by decide +kernel
theorem dX7_rests_134 : decode cX7_rests 134 = .ok (.ireturn, 1) := by decide +kernel
theorem dX7_rider_0 : decode cX7_rider 0 = .ok (.aload_n 0, 1) := by decide +kernel
theorem dX7_rider_1 : decode cX7_rider 1 = .ok (.getfield 19, 3) := by decide +kernel
theorem dX7_rider_4 : decode cX7_rider 4 = .ok (.iload_n 1, 1) := by decide +kernel
theorem dX7_rider_5 : decode cX7_rider 5 = .ok (.invokevirtual 110, 3) := by decide +kernel
theorem dX7_rider_8 : decode cX7_rider 8 = .ok (.ifCond .eq 12, 3) := by decide +kernel
theorem dX7_rider_11 : decode cX7_rider 11 = .ok (.iload_n 2, 1) := by decide +kernel
theorem dX7_rider_12 : decode cX7_rider 12 = .ok (.ifCond .lt 8, 3) := by decide +kernel
theorem dX7_rider_15 : decode cX7_rider 15 = .ok (.iload_n 2, 1) := by decide +kernel
theorem dX7_rider_16 : decode cX7_rider 16 = .ok (.iconst 5, 1) := by decide +kernel
theorem dX7_rider_17 : decode cX7_rider 17 = .ok (.if_icmp .le 11, 3) := by decide +kernel
theorem dX7_rider_23 : decode cX7_rider 23 = .ok (.dup, 1) := by decide +kernel
theorem dX7_rider_28 : decode cX7_rider 28 = .ok (.iload_n 2, 1) := by decide +kernel
theorem dX7_rider_29 : decode cX7_rider 29 = .ok (.tableswitch 92 0 4 #[35, 45, 55, 65, 75], 35) := by decide +kernel
theorem dX7_rider_64 : decode cX7_rider 64 = .ok (.aload_n 0, 1) := by decide +kernel
theorem dX7_rider_65 : decode cX7_rider 65 = .ok (.getfield 19, 3) := by decide +kernel
theorem dX7_rider_68 : decode cX7_rider 68 = .ok (.getfield 116, 3) := by decide +kernel
theorem dX7_rider_71 : decode cX7_rider 71 = .ok (.iload_n 1, 1) := by decide +kernel
theorem dX7_rider_72 : decode cX7_rider 72 = .ok (.iaload, 1) := by decide +kernel
theorem dX7_rider_73 : decode cX7_rider 73 = .ok (.ireturn, 1) := by decide +kernel
theorem dX7_rider_74 : decode cX7_rider 74 = .ok (.aload_n 0, 1) := by decide +kernel
theorem dX7_rider_75 : decode cX7_rider 75 = .ok (.getfield 19, 3) := by decide +kernel
theorem dX7_rider_78 : decode cX7_rider 78 = .ok (.getfield 119, 3) := by decide +kernel
theorem dX7_rider_81 : decode cX7_rider 81 = .ok (.iload_n 1, 1) := by decide +kernel
theorem dX7_rider_82 : decode cX7_rider 82 = .ok (.iaload, 1) := by decide +kernel
theorem dX7_rider_83 : decode cX7_rider 83 = .ok (.ireturn, 1) := by decide +kernel
theorem dX7_rider_84 : decode cX7_rider 84 = .ok (.aload_n 0, 1) := by decide +kernel
theorem dX7_rider_85 : decode cX7_rider 85 = .ok (.getfield 19, 3) := by decide +kernel
theorem dX7_rider_88 : decode cX7_rider 88 = .ok (.getfield 122, 3) := by decide +kernel
theorem dX7_rider_91 : decode cX7_rider 91 = .ok (.iload_n 1, 1) := by decide +kernel
theorem dX7_rider_92 : decode cX7_rider 92 = .ok (.iaload, 1) := by decide +kernel
theorem dX7_rider_93 : decode cX7_rider 93 = .ok (.ireturn, 1) := by decide +kernel
theorem dX7_rider_94 : decode cX7_rider 94 = .ok (.aload_n 0, 1) := by decide +kernel
theorem dX7_rider_95 : decode cX7_rider 95 = .ok (.getfield 26, 3) := by decide +kernel
theorem dX7_rider_98 : decode cX7_rider 98 = .ok (.getfield 125, 3) := by decide +kernel
theorem dX7_rider_101 : decode cX7_rider 101 = .ok (.iload_n 1, 1) := by decide +kernel
theorem dX7_rider_102 : decode cX7_rider 102 = .ok (.iaload, 1) := by decide +kernel
theorem dX7_rider_103 : decode cX7_rider 103 = .ok (.ireturn, 1) := by decide +kernel
theorem dX7_rider_104 : decode cX7_rider 104 = .ok (.aload_n 0, 1) := by decide +kernel
theorem dX7_rider_105 : decode cX7_rider 105 = .ok (.getfield 26, 3) := by decide +kernel
theorem dX7_rider_108 : decode cX7_rider 108 = .ok (.iload_n 1, 1) := by decide +kernel
theorem dX7_rider_109 : decode cX7_rider 109 = .ok (.invokevirtual 128, 3) := by decide +kernel
theorem dX7_rider_112 : decode cX7_rider 112 = .ok (.ifCond .eq 7, 3) := by decide +kernel
theorem dX7_rider_115 : decode cX7_rider 115 = .ok (.iconst 1, 1) := by decide +kernel
theorem dX7_rider_116 : decode cX7_rider 116 = .ok (.goto 4, 3) := by decide +kernel
theorem dX7_rider_119 : decode cX7_rider 119 = .ok (.iconst 0, 1) := by decide +kernel
theorem dX7_rider_120 : decode cX7_rider 120 = .ok (.ireturn, 1) := by decide +kernel
theorem dX7_rider_121 : decode cX7_rider 121 = .ok (.aload_n 0, 1) := by decide +kernel
theorem dX7_rider_122 : decode cX7_rider 122 = .ok (.getfield 26, 3) := by decide +kernel
theorem dX7_rider_125 : decode cX7_rider 125 = .ok (.iload_n 1, 1) := by decide +kernel
theorem dX7_rider_126 : decode cX7_rider 126 = .ok (.invokevirtual 131, 3) := by decide +kernel
theorem dX7_rider_129 : decode cX7_rider 129 = .ok (.ireturn, 1) := by decide +kernel
theorem dX7_riders_0 : decode cX7_riders 0 = .ok (.aload_n 0, 1) := by decide +kernel
theorem dX7_riders_1 : decode cX7_riders 1 = .ok (.getfield 19, 3) := by decide +kernel
theorem dX7_riders_4 : decode cX7_riders 4 = .ok (.aload_n 0, 1) := by decide +kernel
theorem dX7_riders_5 : decode cX7_riders 5 = .ok (.getfield 10, 3) := by decide +kernel
theorem dX7_riders_8 : decode cX7_riders 8 = .ok (.invokevirtual 90, 3) := by decide +kernel
theorem dX7_riders_11 : decode cX7_riders 11 = .ok (.istore_n 1, 1) := by decide +kernel
theorem dX7_riders_12 : decode cX7_riders 12 = .ok (.aload_n 0, 1) := by decide +kernel
theorem dX7_riders_13 : decode cX7_riders 13 = .ok (.getfield 10, 3) := by decide +kernel
theorem dX7_riders_16 : decode cX7_riders 16 = .ok (.invokevirtual 94, 3) := by decide +kernel
theorem dX7_riders_19 : decode cX7_riders 19 = .ok (.iload_n 1, 1) := by decide +kernel
theorem dX7_riders_20 : decode cX7_riders 20 = .ok (.ifCond .le 14, 3) := by decide +kernel
theorem dX7_riders_23 : decode cX7_riders 23 = .ok (.aload_n 0, 1) := by decide +kernel
theorem dX7_riders_24 : decode cX7_riders 24 = .ok (.getfield 39, 3) := by decide +kernel
theorem dX7_riders_27 : decode cX7_riders 27 = .ok (.invokevirtual 97, 3) := by decide +kernel
theorem dX7_riders_30 : decode cX7_riders 30 = .ok (.aload_n 0, 1) := by decide +kernel
theorem dX7_riders_31 : decode cX7_riders 31 = .ok (.invokevirtual 100, 3) := by decide +kernel
theorem dX7_riders_34 : decode cX7_riders 34 = .ok (.iload_n 1, 1) := by decide +kernel
theorem dX7_riders_35 : decode cX7_riders 35 = .ok (.ireturn, 1) := by decide +kernel
theorem dX7_rota_0 : decode cX7_rota 0 = .ok (.aload_n 0, 1) := by decide +kernel
theorem dX7_rota_1 : decode cX7_rota 1 = .ok (.invokevirtual 167, 3) := by decide +kernel
theorem dX7_rota_4 : decode cX7_rota 4 = .ok (.istore_n 1, 1) := by decide +kernel
theorem dX7_rota_5 : decode cX7_rota 5 = .ok (.iconst (-1), 1) := by decide +kernel
theorem dX7_rota_6 : decode cX7_rota 6 = .ok (.iload_n 1, 1) := by decide +kernel
theorem dX7_rota_7 : decode cX7_rota 7 = .ok (.isub, 1) := by decide +kernel
theorem dX7_rota_8 : decode cX7_rota 8 = .ok (.istore_n 2, 1) := by decide +kernel
theorem dX7_rota_9 : decode cX7_rota 9 = .ok (.iload_n 1, 1) := by decide +kernel
theorem dX7_rota_10 : decode cX7_rota 10 = .ok (.iconst (-1), 1) := by decide +kernel
theorem dX7_rota_11 : decode cX7_rota 11 = .ok (.if_icmp .ne 30, 3) := by decide +kernel
theorem dX7_rota_14 : decode cX7_rota 14 = .ok (.aload_n 0, 1) := by decide +kernel
theorem dX7_rota_15 : decode cX7_rota 15 = .ok (.getfield 30, 3) := by decide +kernel
theorem dX7_rota_18 : decode cX7_rota 18 = .ok (.aload_n 0, 1) := by decide +kernel
theorem dX7_rota_19 : decode cX7_rota 19 = .ok (.getfield 26, 3) := by decide +kernel
theorem dX7_rota_22 : decode cX7_rota 22 = .ok (.invokevirtual 170, 3) := by decide +kernel
theorem dX7_rota_25 : decode cX7_rota 25 = .ok (.aload_n 0, 1) := by decide +kernel
theorem dX7_rota_26 : decode cX7_rota 26 = .ok (.invokevirtual 174, 3) := by decide +kernel
theorem dX7_rota_29 : decode cX7_rota 29 = .ok (.istore_n 2, 1) := by decide +kernel
theorem dX7_rota_30 : decode cX7_rota 30 = .ok (.aload_n 0, 1) := by decide +kernel
theorem dX7_rota_31 : decode cX7_rota 31 = .ok (.getfield 39, 3) := by decide +kernel
theorem dX7_rota_34 : decode cX7_rota 34 = .ok (.aload_n 0, 1) := by decide +kernel
theorem dX7_rota_35 : decode cX7_rota 35 = .ok (.getfield 30, 3) := by decide +kernel
theorem dX7_rota_38 : decode cX7_rota 38 = .ok (.invokevirtual 177, 3) := by decide +kernel
theorem dX7_rota_41 : decode cX7_rota 41 = .ok (.aload_n 0, 1) := by decide +kernel
theorem dX7_rota_42 : decode cX7_rota 42 = .ok (.getfield 10, 3) := by decide +kernel
theorem dX7_rota_45 : decode cX7_rota 45 = .ok (.invokevirtual 94, 3) := by decide +kernel
theorem dX7_rota_48 : decode cX7_rota 48 = .ok (.iload_n 2, 1) := by decide +kernel
theorem dX7_rota_49 : decode cX7_rota 49 = .ok (.ireturn, 1) := by decide +kernel
theorem dX7_rotaFault_0 : decode cX7_rotaFault 0 = .ok (.aload_n 0, 1) := by decide +kernel
theorem dX7_rotaFault_1 : decode cX7_rotaFault 1 = .ok (.getfield 10, 3) := by decide +kernel
theorem dX7_rotaFault_4 : decode cX7_rotaFault 4 = .ok (.getfield 215, 3) := by decide +kernel
theorem dX7_rotaFault_7 : decode cX7_rotaFault 7 = .ok (.aload_n 0, 1) := by decide +kernel
theorem dX7_rotaFault_8 : decode cX7_rotaFault 8 = .ok (.getfield 19, 3) := by decide +kernel
theorem dX7_rotaFault_11 : decode cX7_rotaFault 11 = .ok (.getfield 141, 3) := by decide +kernel
theorem dX7_rotaFault_14 : decode cX7_rotaFault 14 = .ok (.invokestatic 400, 3) := by decide +kernel
theorem dX7_rotaFault_17 : decode cX7_rotaFault 17 = .ok (.istore_n 1, 1) := by decide +kernel
theorem dX7_rotaFault_18 : decode cX7_rotaFault 18 = .ok (.iconst 0, 1) := by decide +kernel
theorem dX7_rotaFault_19 : decode cX7_rotaFault 19 = .ok (.istore_n 2, 1) := by decide +kernel
theorem dX7_rotaFault_20 : decode cX7_rotaFault 20 = .ok (.iload_n 2, 1) := by decide +kernel
theorem dX7_rotaFault_21 : decode cX7_rotaFault 21 = .ok (.iload_n 1, 1) := by decide +kernel
theorem dX7_rotaFault_22 : decode cX7_rotaFault 22 = .ok (.if_icmp .ge 47, 3) := by decide +kernel
theorem dX7_rotaFault_25 : decode cX7_rotaFault 25 = .ok (.aload_n 0, 1) := by decide +kernel
theorem dX7_rotaFault_26 : decode cX7_rotaFault 26 = .ok (.getfield 10, 3) := by decide +kernel
theorem dX7_rotaFault_29 : decode cX7_rotaFault 29 = .ok (.iload_n 2, 1) := by decide +kernel
theorem dX7_rotaFault_30 : decode cX7_rotaFault 30 = .ok (.invokevirtual 218, 3) := by decide +kernel
theorem dX7_rotaFault_33 : decode cX7_rotaFault 33 = .ok (.istore_n 3, 1) := by decide +kernel
theorem dX7_rotaFault_34 : decode cX7_rotaFault 34 = .ok (.iload_n 3, 1) := by decide +kernel
theorem dX7_rotaFault_35 : decode cX7_rotaFault 35 = .ok (.bipush 45, 2) := by decide +kernel
theorem dX7_rotaFault_37 : decode cX7_rotaFault 37 = .ok (.if_icmp .eq 26, 3) := by decide +kernel
theorem dX7_rotaFault_40 : decode cX7_rotaFault 40 = .ok (.iload_n 3, 1) := by decide +kernel
theorem dX7_rotaFault_41 : decode cX7_rotaFault 41 = .ok (.invokestatic 414, 3) := by decide +kernel
theorem dX7_rotaFault_44 : decode cX7_rotaFault 44 = .ok (.ifCond .eq 17, 3) := by decide +kernel
theorem dX7_rotaFault_47 : decode cX7_rotaFault 47 = .ok (.aload_n 0, 1) := by decide +kernel
theorem dX7_rotaFault_48 : decode cX7_rotaFault 48 = .ok (.getfield 19, 3) := by decide +kernel
theorem dX7_rotaFault_51 : decode cX7_rotaFault 51 = .ok (.iload_n 3, 1) := by decide +kernel
theorem dX7_rotaFault_52 : decode cX7_rotaFault 52 = .ok (.bipush 48, 2) := by decide +kernel
theorem dX7_rotaFault_54 : decode cX7_rotaFault 54 = .ok (.isub, 1) := by decide +kernel
theorem dX7_rotaFault_55 : decode cX7_rotaFault 55 = .ok (.invokevirtual 110, 3) := by decide +kernel
theorem dX7_rotaFault_58 : decode cX7_rotaFault 58 = .ok (.ifCond .ne 5, 3) := by decide +kernel
theorem dX7_rotaFault_61 : decode cX7_rotaFault 61 = .ok (.iload_n 2, 1) := by decide +kernel
theorem dX7_rotaFault_62 : decode cX7_rotaFault 62 = .ok (.ireturn, 1) := by decide +kernel
theorem dX7_rotaFault_63 : decode cX7_rotaFault 63 = .ok (.iinc 2 1, 3) := by decide +kernel
theorem dX7_rotaFault_66 : decode cX7_rotaFault 66 = .ok (.goto (-46), 3) := by decide +kernel
theorem dX7_rotaFault_69 : decode cX7_rotaFault 69 = .ok (.aload_n 0, 1) := by decide +kernel
theorem dX7_rotaFault_70 : decode cX7_rotaFault 70 = .ok (.getfield 10, 3) := by decide +kernel
theorem dX7_rotaFault_73 : decode cX7_rotaFault 73 = .ok (.getfield 215, 3) := by decide +kernel
theorem dX7_rotaFault_76 : decode cX7_rotaFault 76 = .ok (.aload_n 0, 1) := by decide +kernel
theorem dX7_rotaFault_77 : decode cX7_rotaFault 77 = .ok (.getfield 19, 3) := by decide +kernel
theorem dX7_rotaFault_80 : decode cX7_rotaFault 80 = .ok (.getfield 141, 3) := by decide +kernel
theorem dX7_rotaFault_83 : decode cX7_rotaFault 83 = .ok (.if_icmp .ne 7, 3) := by decide +kernel
theorem dX7_rotaFault_86 : decode cX7_rotaFault 86 = .ok (.iconst (-1), 1) := by decide +kernel
theorem dX7_rotaFault_87 : decode cX7_rotaFault 87 = .ok (.goto 4, 3) := by decide +kernel
theorem dX7_rotaFault_90 : decode cX7_rotaFault 90 = .ok (.iload_n 1, 1) := by decide +kernel
theorem dX7_rotaFault_91 : decode cX7_rotaFault 91 = .ok (.ireturn, 1) := by decide +kernel
theorem dX7_rotas_0 : decode cX7_rotas 0 = .ok (.aload_n 0, 1) := by decide +kernel
theorem dX7_rotas_1 : decode cX7_rotas 1 = .ok (.iconst (-1), 1) := by decide +kernel
theorem dX7_rotas_2 : decode cX7_rotas 2 = .ok (.invokevirtual 268, 3) := by decide +kernel
theorem dX7_rotas_5 : decode cX7_rotas 5 = .ok (.aload_n 0, 1) := by decide +kernel
theorem dX7_rotas_6 : decode cX7_rotas 6 = .ok (.invokevirtual 287, 3) := by decide +kernel
theorem dX7_rotas_9 : decode cX7_rotas 9 = .ok (.ireturn, 1) := by decide +kernel
theorem dX7_row_0 : decode cX7_row 0 = .ok (.iload_n 1, 1) := by decide +kernel
theorem dX7_row_1 : decode cX7_row 1 = .ok (.ifCond .lt 14, 3) := by decide +kernel
theorem dX7_row_4 : decode cX7_row 4 = .ok (.iload_n 1, 1) := by decide +kernel
theorem dX7_row_5 : decode cX7_row 5 = .ok (.aload_n 0, 1) := by decide +kernel
theorem dX7_row_6 : decode cX7_row 6 = .ok (.getfield 61, 3) := by decide +kernel
theorem dX7_row_9 : decode cX7_row 9 = .ok (.getfield 397, 3) := by decide +kernel
theorem dX7_row_12 : decode cX7_row 12 = .ok (.if_icmp .lt 11, 3) := by decide +kernel
theorem dX7_row_18 : decode cX7_row 18 = .ok (.dup, 1) := by decide +kernel
theorem dX7_row_23 : decode cX7_row 23 = .ok (.aload_n 0, 1) := by decide +kernel
theorem dX7_row_24 : decode cX7_row 24 = .ok (.getfield 61, 3) := by decide +kernel
theorem dX7_row_27 : decode cX7_row 27 = .ok (.iload_n 1, 1) := by decide +kernel
theorem dX7_row_28 : decode cX7_row 28 = .ok (.invokevirtual 398, 3) := by decide +kernel
theorem dX7_row_31 : decode cX7_row 31 = .ok (.lreturn, 1) := by decide +kernel
theorem dX7_rule_0 : decode cX7_rule 0 = .ok (.aload_n 0, 1) := by decide +kernel
theorem dX7_rule_1 : decode cX7_rule 1 = .ok (.invokevirtual 103, 3) := by decide +kernel
theorem dX7_rule_4 : decode cX7_rule 4 = .ok (.istore_n 1, 1) := by decide +kernel
theorem dX7_rule_5 : decode cX7_rule 5 = .ok (.iload_n 1, 1) := by decide +kernel
theorem dX7_rule_6 : decode cX7_rule 6 = .ok (.iconst (-1), 1) := by decide +kernel
theorem dX7_rule_7 : decode cX7_rule 7 = .ok (.if_icmp .eq 7, 3) := by decide +kernel
theorem dX7_rule_10 : decode cX7_rule 10 = .ok (.iconst (-1), 1) := by decide +kernel
theorem dX7_rule_11 : decode cX7_rule 11 = .ok (.iload_n 1, 1) := by decide +kernel
theorem dX7_rule_12 : decode cX7_rule 12 = .ok (.isub, 1) := by decide +kernel
theorem dX7_rule_13 : decode cX7_rule 13 = .ok (.ireturn, 1) := by decide +kernel
theorem dX7_rule_14 : decode cX7_rule 14 = .ok (.aload_n 0, 1) := by decide +kernel
theorem dX7_rule_15 : decode cX7_rule 15 = .ok (.getfield 19, 3) := by decide +kernel
theorem dX7_rule_18 : decode cX7_rule 18 = .ok (.getfield 107, 3) := by decide +kernel
theorem dX7_rule_21 : decode cX7_rule 21 = .ok (.astore_n 2, 1) := by decide +kernel
theorem dX7_rule_22 : decode cX7_rule 22 = .ok (.aload_n 0, 1) := by decide +kernel
theorem dX7_rule_23 : decode cX7_rule 23 = .ok (.getfield 19, 3) := by decide +kernel
theorem dX7_rule_26 : decode cX7_rule 26 = .ok (.aload_n 0, 1) := by decide +kernel
theorem dX7_rule_27 : decode cX7_rule 27 = .ok (.getfield 78, 3) := by decide +kernel
theorem dX7_rule_30 : decode cX7_rule 30 = .ok (.putfield 107, 3) := by decide +kernel
theorem dX7_rule_33 : decode cX7_rule 33 = .ok (.aload_n 0, 1) := by decide +kernel
theorem dX7_rule_34 : decode cX7_rule 34 = .ok (.aload_n 2, 1) := by decide +kernel
theorem dX7_rule_35 : decode cX7_rule 35 = .ok (.putfield 78, 3) := by decide +kernel
theorem dX7_rule_38 : decode cX7_rule 38 = .ok (.iconst 0, 1) := by decide +kernel
theorem dX7_rule_39 : decode cX7_rule 39 = .ok (.ireturn, 1) := by decide +kernel
theorem dX7_set_0 : decode cX7_set 0 = .ok (.iconst (-1), 1) := by decide +kernel
theorem dX7_set_1 : decode cX7_set 1 = .ok (.istore_n 3, 1) := by decide +kernel
theorem dX7_set_2 : decode cX7_set 2 = .ok (.iload_n 1, 1) := by decide +kernel
theorem dX7_set_3 : decode cX7_set 3 = .ok (.ifCond .ne 33, 3) := by decide +kernel
theorem dX7_set_6 : decode cX7_set 6 = .ok (.iload_n 2, 1) := by decide +kernel
theorem dX7_set_7 : decode cX7_set 7 = .ok (.iconst 1, 1) := by decide +kernel
theorem dX7_set_8 : decode cX7_set 8 = .ok (.if_icmp .lt 28, 3) := by decide +kernel
theorem dX7_set_11 : decode cX7_set 11 = .ok (.iload_n 2, 1) := by decide +kernel
theorem dX7_set_12 : decode cX7_set 12 = .ok (.bipush 8, 2) := by decide +kernel
theorem dX7_set_14 : decode cX7_set 14 = .ok (.if_icmp .gt 22, 3) := by decide +kernel
theorem dX7_set_17 : decode cX7_set 17 = .ok (.aload_n 0, 1) := by decide +kernel
theorem dX7_set_18 : decode cX7_set 18 = .ok (.getfield 19, 3) := by decide +kernel
theorem dX7_set_21 : decode cX7_set 21 = .ok (.getfield 141, 3) := by decide +kernel
theorem dX7_set_24 : decode cX7_set 24 = .ok (.istore_n 3, 1) := by decide +kernel
theorem dX7_set_25 : decode cX7_set 25 = .ok (.aload_n 0, 1) := by decide +kernel
theorem dX7_set_26 : decode cX7_set 26 = .ok (.getfield 19, 3) := by decide +kernel
theorem dX7_set_29 : decode cX7_set 29 = .ok (.iload_n 2, 1) := by decide +kernel
theorem dX7_set_30 : decode cX7_set 30 = .ok (.putfield 141, 3) := by decide +kernel
theorem dX7_set_33 : decode cX7_set 33 = .ok (.goto 34, 3) := by decide +kernel
theorem dX7_set_36 : decode cX7_set 36 = .ok (.iload_n 1, 1) := by decide +kernel
theorem dX7_set_37 : decode cX7_set 37 = .ok (.iconst 1, 1) := by decide +kernel
theorem dX7_set_38 : decode cX7_set 38 = .ok (.if_icmp .ne 29, 3) := by decide +kernel
theorem dX7_set_41 : decode cX7_set 41 = .ok (.iload_n 2, 1) := by decide +kernel
theorem dX7_set_42 : decode cX7_set 42 = .ok (.ifCond .lt 25, 3) := by decide +kernel
theorem dX7_set_45 : decode cX7_set 45 = .ok (.iload_n 2, 1) := by decide +kernel
theorem dX7_set_46 : decode cX7_set 46 = .ok (.bipush 9, 2) := by decide +kernel
theorem dX7_set_48 : decode cX7_set 48 = .ok (.if_icmp .gt 19, 3) := by decide +kernel
theorem dX7_set_51 : decode cX7_set 51 = .ok (.aload_n 0, 1) := by decide +kernel
theorem dX7_set_52 : decode cX7_set 52 = .ok (.getfield 19, 3) := by decide +kernel
theorem dX7_set_55 : decode cX7_set 55 = .ok (.getfield 145, 3) := by decide +kernel
theorem dX7_set_58 : decode cX7_set 58 = .ok (.istore_n 3, 1) := by decide +kernel
theorem dX7_set_59 : decode cX7_set 59 = .ok (.aload_n 0, 1) := by decide +kernel
theorem dX7_set_60 : decode cX7_set 60 = .ok (.getfield 19, 3) := by decide +kernel
theorem dX7_set_63 : decode cX7_set 63 = .ok (.iload_n 2, 1) := by decide +kernel
theorem dX7_set_64 : decode cX7_set 64 = .ok (.putfield 145, 3) := by decide +kernel
theorem dX7_set_67 : decode cX7_set 67 = .ok (.iload_n 3, 1) := by decide +kernel
theorem dX7_set_68 : decode cX7_set 68 = .ok (.ireturn, 1) := by decide +kernel
theorem dX7_shared_0 : decode cX7_shared 0 = .ok (.aload_n 0, 1) := by decide +kernel
theorem dX7_shared_1 : decode cX7_shared 1 = .ok (.getfield 19, 3) := by decide +kernel
theorem dX7_shared_4 : decode cX7_shared 4 = .ok (.iload_n 1, 1) := by decide +kernel
theorem dX7_shared_5 : decode cX7_shared 5 = .ok (.iload_n 2, 1) := by decide +kernel
theorem dX7_shared_6 : decode cX7_shared 6 = .ok (.invokevirtual 328, 3) := by decide +kernel
theorem dX7_shared_9 : decode cX7_shared 9 = .ok (.ifCond .ne 5, 3) := by decide +kernel
theorem dX7_shared_12 : decode cX7_shared 12 = .ok (.iconst (-1), 1) := by decide +kernel
theorem dX7_shared_13 : decode cX7_shared 13 = .ok (.ireturn, 1) := by decide +kernel
theorem dX7_shared_14 : decode cX7_shared 14 = .ok (.aload_n 0, 1) := by decide +kernel
theorem dX7_shared_15 : decode cX7_shared 15 = .ok (.getfield 61, 3) := by decide +kernel
theorem dX7_shared_18 : decode cX7_shared 18 = .ok (.aload_n 0, 1) := by decide +kernel
theorem dX7_shared_19 : decode cX7_shared 19 = .ok (.getfield 19, 3) := by decide +kernel
theorem dX7_shared_22 : decode cX7_shared 22 = .ok (.getfield 122, 3) := by decide +kernel
theorem dX7_shared_25 : decode cX7_shared 25 = .ok (.iload_n 1, 1) := by decide +kernel
theorem dX7_shared_26 : decode cX7_shared 26 = .ok (.iaload, 1) := by decide +kernel
theorem dX7_shared_27 : decode cX7_shared 27 = .ok (.aload_n 0, 1) := by decide +kernel
theorem dX7_shared_28 : decode cX7_shared 28 = .ok (.getfield 19, 3) := by decide +kernel
theorem dX7_shared_31 : decode cX7_shared 31 = .ok (.getfield 122, 3) := by decide +kernel
theorem dX7_shared_34 : decode cX7_shared 34 = .ok (.iload_n 2, 1) := by decide +kernel
theorem dX7_shared_35 : decode cX7_shared 35 = .ok (.iaload, 1) := by decide +kernel
theorem dX7_shared_36 : decode cX7_shared 36 = .ok (.ior, 1) := by decide +kernel
theorem dX7_shared_37 : decode cX7_shared 37 = .ok (.iconst (-1), 1) := by decide +kernel
theorem dX7_shared_38 : decode cX7_shared 38 = .ok (.ixor, 1) := by decide +kernel
theorem dX7_shared_39 : decode cX7_shared 39 = .ok (.sipush 255, 3) := by decide +kernel
theorem dX7_shared_42 : decode cX7_shared 42 = .ok (.iand, 1) := by decide +kernel
theorem dX7_shared_43 : decode cX7_shared 43 = .ok (.i2l, 1) := by decide +kernel
theorem dX7_shared_44 : decode cX7_shared 44 = .ok (.invokevirtual 247, 3) := by decide +kernel
theorem dX7_shared_47 : decode cX7_shared 47 = .ok (.aload_n 0, 1) := by decide +kernel
theorem dX7_shared_48 : decode cX7_shared 48 = .ok (.getfield 19, 3) := by decide +kernel
theorem dX7_shared_51 : decode cX7_shared 51 = .ok (.getfield 122, 3) := by decide +kernel
theorem dX7_shared_54 : decode cX7_shared 54 = .ok (.iload_n 1, 1) := by decide +kernel
theorem dX7_shared_55 : decode cX7_shared 55 = .ok (.iaload, 1) := by decide +kernel
theorem dX7_shared_56 : decode cX7_shared 56 = .ok (.aload_n 0, 1) := by decide +kernel
theorem dX7_shared_57 : decode cX7_shared 57 = .ok (.getfield 19, 3) := by decide +kernel
theorem dX7_shared_60 : decode cX7_shared 60 = .ok (.getfield 122, 3) := by decide +kernel
theorem dX7_shared_63 : decode cX7_shared 63 = .ok (.iload_n 2, 1) := by decide +kernel
theorem dX7_shared_64 : decode cX7_shared 64 = .ok (.iaload, 1) := by decide +kernel
theorem dX7_shared_65 : decode cX7_shared 65 = .ok (.iand, 1) := by decide +kernel
theorem dX7_shared_66 : decode cX7_shared 66 = .ok (.ireturn, 1) := by decide +kernel
theorem dX7_sheet_0 : decode cX7_sheet 0 = .ok (.iload_n 1, 1) := by decide +kernel
theorem dX7_sheet_1 : decode cX7_sheet 1 = .ok (.ifCond .lt 14, 3) := by decide +kernel
theorem dX7_sheet_4 : decode cX7_sheet 4 = .ok (.iload_n 1, 1) := by decide +kernel
theorem dX7_sheet_5 : decode cX7_sheet 5 = .ok (.iconst 3, 1) := by decide +kernel
theorem dX7_sheet_6 : decode cX7_sheet 6 = .ok (.if_icmp .gt 9, 3) := by decide +kernel
theorem dX7_sheet_9 : decode cX7_sheet 9 = .ok (.iload_n 2, 1) := by decide +kernel
theorem dX7_sheet_10 : decode cX7_sheet 10 = .ok (.bipush 8, 2) := by decide +kernel
theorem dX7_sheet_12 : decode cX7_sheet 12 = .ok (.if_icmp .le 5, 3) := by decide +kernel
theorem dX7_sheet_15 : decode cX7_sheet 15 = .ok (.iconst (-1), 1) := by decide +kernel
theorem dX7_sheet_16 : decode cX7_sheet 16 = .ok (.ireturn, 1) := by decide +kernel
theorem dX7_sheet_17 : decode cX7_sheet 17 = .ok (.iload_n 1, 1) := by decide +kernel
theorem dX7_sheet_18 : decode cX7_sheet 18 = .ok (.iconst 3, 1) := by decide +kernel
theorem dX7_sheet_19 : decode cX7_sheet 19 = .ok (.if_icmp .ne 17, 3) := by decide +kernel
theorem dX7_sheet_22 : decode cX7_sheet 22 = .ok (.aload_n 0, 1) := by decide +kernel
theorem dX7_sheet_23 : decode cX7_sheet 23 = .ok (.getfield 26, 3) := by decide +kernel
theorem dX7_sheet_26 : decode cX7_sheet 26 = .ok (.getfield 125, 3) := by decide +kernel
theorem dX7_sheet_29 : decode cX7_sheet 29 = .ok (.iconst 0, 1) := by decide +kernel
theorem dX7_sheet_30 : decode cX7_sheet 30 = .ok (.invokestatic 148, 3) := by decide +kernel
theorem dX7_sheet_33 : decode cX7_sheet 33 = .ok (.bipush (-3), 2) := by decide +kernel
theorem dX7_sheet_35 : decode cX7_sheet 35 = .ok (.ireturn, 1) := by decide +kernel
theorem dX7_sheet_36 : decode cX7_sheet 36 = .ok (.iload_n 2, 1) := by decide +kernel
theorem dX7_sheet_37 : decode cX7_sheet 37 = .ok (.ifCond .ge 6, 3) := by decide +kernel
theorem dX7_sheet_40 : decode cX7_sheet 40 = .ok (.bipush (-2), 2) := by decide +kernel
theorem dX7_sheet_42 : decode cX7_sheet 42 = .ok (.ireturn, 1) := by decide +kernel
theorem dX7_sheet_43 : decode cX7_sheet 43 = .ok (.iconst 0, 1) := by decide +kernel
theorem dX7_sheet_44 : decode cX7_sheet 44 = .ok (.istore 5, 2) := by decide +kernel
theorem dX7_sheet_46 : decode cX7_sheet 46 = .ok (.iload 5, 2) := by decide +kernel
theorem dX7_sheet_48 : decode cX7_sheet 48 = .ok (.aload_n 0, 1) := by decide +kernel
theorem dX7_sheet_49 : decode cX7_sheet 49 = .ok (.getfield 19, 3) := by decide +kernel
theorem dX7_sheet_52 : decode cX7_sheet 52 = .ok (.getfield 154, 3) := by decide +kernel
theorem dX7_sheet_55 : decode cX7_sheet 55 = .ok (.if_icmp .ge 46, 3) := by decide +kernel
theorem dX7_sheet_58 : decode cX7_sheet 58 = .ok (.aload_n 0, 1) := by decide +kernel
theorem dX7_sheet_59 : decode cX7_sheet 59 = .ok (.getfield 26, 3) := by decide +kernel
theorem dX7_sheet_62 : decode cX7_sheet 62 = .ok (.getfield 125, 3) := by decide +kernel
theorem dX7_sheet_65 : decode cX7_sheet 65 = .ok (.iload 5, 2) := by decide +kernel
theorem dX7_sheet_67 : decode cX7_sheet 67 = .ok (.iload 5, 2) := by decide +kernel
theorem dX7_sheet_69 : decode cX7_sheet 69 = .ok (.iload_n 2, 1) := by decide +kernel
theorem dX7_sheet_70 : decode cX7_sheet 70 = .ok (.if_icmp .ge 23, 3) := by decide +kernel
theorem dX7_sheet_73 : decode cX7_sheet 73 = .ok (.iload_n 1, 1) := by decide +kernel
theorem dX7_sheet_74 : decode cX7_sheet 74 = .ok (.iload_n 3, 1) := by decide +kernel
theorem dX7_sheet_75 : decode cX7_sheet 75 = .ok (.iload 5, 2) := by decide +kernel
theorem dX7_sheet_77 : decode cX7_sheet 77 = .ok (.iload 4, 2) := by decide +kernel
theorem dX7_sheet_79 : decode cX7_sheet 79 = .ok (.imul, 1) := by decide +kernel
theorem dX7_sheet_80 : decode cX7_sheet 80 = .ok (.iadd, 1) := by decide +kernel
theorem dX7_sheet_81 : decode cX7_sheet 81 = .ok (.invokestatic 157, 3) := by decide +kernel
theorem dX7_sheet_84 : decode cX7_sheet 84 = .ok (.iconst 0, 1) := by decide +kernel
theorem dX7_sheet_85 : decode cX7_sheet 85 = .ok (.bipush 99, 2) := by decide +kernel
theorem dX7_sheet_87 : decode cX7_sheet 87 = .ok (.invokestatic 160, 3) := by decide +kernel
theorem dX7_sheet_90 : decode cX7_sheet 90 = .ok (.goto 4, 3) := by decide +kernel
theorem dX7_sheet_93 : decode cX7_sheet 93 = .ok (.iconst 0, 1) := by decide +kernel
theorem dX7_sheet_94 : decode cX7_sheet 94 = .ok (.iastore, 1) := by decide +kernel
theorem dX7_sheet_95 : decode cX7_sheet 95 = .ok (.iinc 5 1, 3) := by decide +kernel
theorem dX7_sheet_98 : decode cX7_sheet 98 = .ok (.goto (-52), 3) := by decide +kernel
theorem dX7_sheet_101 : decode cX7_sheet 101 = .ok (.aload_n 0, 1) := by decide +kernel
theorem dX7_sheet_102 : decode cX7_sheet 102 = .ok (.getfield 26, 3) := by decide +kernel
theorem dX7_sheet_105 : decode cX7_sheet 105 = .ok (.invokevirtual 164, 3) := by decide +kernel
theorem dX7_sheet_108 : decode cX7_sheet 108 = .ok (.ireturn, 1) := by decide +kernel
theorem dX7_sign_0 : decode cX7_sign 0 = .ok (.aload_n 0, 1) := by decide +kernel
theorem dX7_sign_1 : decode cX7_sign 1 = .ok (.getfield 10, 3) := by decide +kernel
theorem dX7_sign_4 : decode cX7_sign 4 = .ok (.iload_n 1, 1) := by decide +kernel
theorem dX7_sign_5 : decode cX7_sign 5 = .ok (.invokevirtual 82, 3) := by decide +kernel
theorem dX7_sign_8 : decode cX7_sign 8 = .ok (.ireturn, 1) := by decide +kernel
theorem dX7_smoothest_0 : decode cX7_smoothest 0 = .ok (.aload_n 0, 1) := by decide +kernel
theorem dX7_smoothest_1 : decode cX7_smoothest 1 = .ok (.iconst (-1), 1) := by decide +kernel
theorem dX7_smoothest_2 : decode cX7_smoothest 2 = .ok (.invokevirtual 268, 3) := by decide +kernel
theorem dX7_smoothest_5 : decode cX7_smoothest 5 = .ok (.aload_n 0, 1) := by decide +kernel
theorem dX7_smoothest_6 : decode cX7_smoothest 6 = .ok (.invokevirtual 339, 3) := by decide +kernel
theorem dX7_smoothest_9 : decode cX7_smoothest 9 = .ok (.aload_n 0, 1) := by decide +kernel
theorem dX7_smoothest_10 : decode cX7_smoothest 10 = .ok (.getfield 54, 3) := by decide +kernel
theorem dX7_smoothest_13 : decode cX7_smoothest 13 = .ok (.aload_n 0, 1) := by decide +kernel
theorem dX7_smoothest_14 : decode cX7_smoothest 14 = .ok (.getfield 19, 3) := by decide +kernel
theorem dX7_smoothest_17 : decode cX7_smoothest 17 = .ok (.getfield 119, 3) := by decide +kernel
theorem dX7_smoothest_20 : decode cX7_smoothest 20 = .ok (.aload_n 0, 1) := by decide +kernel
theorem dX7_smoothest_21 : decode cX7_smoothest 21 = .ok (.getfield 19, 3) := by decide +kernel
theorem dX7_smoothest_24 : decode cX7_smoothest 24 = .ok (.getfield 154, 3) := by decide +kernel
theorem dX7_smoothest_27 : decode cX7_smoothest 27 = .ok (.invokevirtual 342, 3) := by decide +kernel
theorem dX7_smoothest_30 : decode cX7_smoothest 30 = .ok (.aload_n 0, 1) := by decide +kernel
theorem dX7_smoothest_31 : decode cX7_smoothest 31 = .ok (.getfield 54, 3) := by decide +kernel
theorem dX7_smoothest_34 : decode cX7_smoothest 34 = .ok (.invokevirtual 275, 3) := by decide +kernel
theorem dX7_smoothest_37 : decode cX7_smoothest 37 = .ok (.lstore_n 1, 1) := by decide +kernel
theorem dX7_smoothest_38 : decode cX7_smoothest 38 = .ok (.lload_n 1, 1) := by decide +kernel
theorem dX7_smoothest_39 : decode cX7_smoothest 39 = .ok (.ldc2_w 262, 3) := by decide +kernel
theorem dX7_smoothest_42 : decode cX7_smoothest 42 = .ok (.lcmp, 1) := by decide +kernel
theorem dX7_smoothest_43 : decode cX7_smoothest 43 = .ok (.ifCond .lt 8, 3) := by decide +kernel
theorem dX7_smoothest_46 : decode cX7_smoothest 46 = .ok (.bipush (-2), 2) := by decide +kernel
theorem dX7_smoothest_48 : decode cX7_smoothest 48 = .ok (.goto 8, 3) := by decide +kernel
theorem dX7_smoothest_51 : decode cX7_smoothest 51 = .ok (.aload_n 0, 1) := by decide +kernel
theorem dX7_smoothest_52 : decode cX7_smoothest 52 = .ok (.lload_n 1, 1) := by decide +kernel
theorem dX7_smoothest_53 : decode cX7_smoothest 53 = .ok (.invokevirtual 264, 3) := by decide +kernel
theorem dX7_smoothest_56 : decode cX7_smoothest 56 = .ok (.ireturn, 1) := by decide +kernel
theorem dX7_spent_0 : decode cX7_spent 0 = .ok (.iload_n 1, 1) := by decide +kernel
theorem dX7_spent_1 : decode cX7_spent 1 = .ok (.ifCond .lt 10, 3) := by decide +kernel
theorem dX7_spent_4 : decode cX7_spent 4 = .ok (.iload_n 1, 1) := by decide +kernel
theorem dX7_spent_5 : decode cX7_spent 5 = .ok (.sipush 999, 3) := by decide +kernel
theorem dX7_spent_8 : decode cX7_spent 8 = .ok (.if_icmp .le 5, 3) := by decide +kernel
theorem dX7_spent_11 : decode cX7_spent 11 = .ok (.iconst (-1), 1) := by decide +kernel
theorem dX7_spent_12 : decode cX7_spent 12 = .ok (.ireturn, 1) := by decide +kernel
theorem dX7_spent_13 : decode cX7_spent 13 = .ok (.iconst 0, 1) := by decide +kernel
theorem dX7_spent_14 : decode cX7_spent 14 = .ok (.istore_n 2, 1) := by decide +kernel
theorem dX7_spent_15 : decode cX7_spent 15 = .ok (.iconst 0, 1) := by decide +kernel
theorem dX7_spent_16 : decode cX7_spent 16 = .ok (.istore_n 3, 1) := by decide +kernel
theorem dX7_spent_17 : decode cX7_spent 17 = .ok (.iconst 0, 1) := by decide +kernel
theorem dX7_spent_18 : decode cX7_spent 18 = .ok (.istore 4, 2) := by decide +kernel
theorem dX7_spent_20 : decode cX7_spent 20 = .ok (.iload 4, 2) := by decide +kernel
theorem dX7_spent_22 : decode cX7_spent 22 = .ok (.aload_n 0, 1) := by decide +kernel
theorem dX7_spent_23 : decode cX7_spent 23 = .ok (.getfield 19, 3) := by decide +kernel
theorem dX7_spent_26 : decode cX7_spent 26 = .ok (.getfield 154, 3) := by decide +kernel
theorem dX7_spent_29 : decode cX7_spent 29 = .ok (.if_icmp .ge 37, 3) := by decide +kernel
theorem dX7_spent_32 : decode cX7_spent 32 = .ok (.aload_n 0, 1) := by decide +kernel
theorem dX7_spent_33 : decode cX7_spent 33 = .ok (.iload 4, 2) := by decide +kernel
theorem dX7_spent_35 : decode cX7_spent 35 = .ok (.invokevirtual 320, 3) := by decide +kernel
theorem dX7_spent_38 : decode cX7_spent 38 = .ok (.istore 5, 2) := by decide +kernel
theorem dX7_spent_40 : decode cX7_spent 40 = .ok (.iload 5, 2) := by decide +kernel
theorem dX7_spent_42 : decode cX7_spent 42 = .ok (.iload_n 1, 1) := by decide +kernel
theorem dX7_spent_43 : decode cX7_spent 43 = .ok (.if_icmp .le 17, 3) := by decide +kernel
theorem dX7_spent_46 : decode cX7_spent 46 = .ok (.iload_n 2, 1) := by decide +kernel
theorem dX7_spent_47 : decode cX7_spent 47 = .ok (.iconst 1, 1) := by decide +kernel
theorem dX7_spent_48 : decode cX7_spent 48 = .ok (.iload 4, 2) := by decide +kernel
theorem dX7_spent_50 : decode cX7_spent 50 = .ok (.ishl, 1) := by decide +kernel
theorem dX7_spent_51 : decode cX7_spent 51 = .ok (.ior, 1) := by decide +kernel
theorem dX7_spent_52 : decode cX7_spent 52 = .ok (.istore_n 2, 1) := by decide +kernel
theorem dX7_spent_53 : decode cX7_spent 53 = .ok (.iload_n 3, 1) := by decide +kernel
theorem dX7_spent_54 : decode cX7_spent 54 = .ok (.iload 5, 2) := by decide +kernel
theorem dX7_spent_56 : decode cX7_spent 56 = .ok (.invokestatic 323, 3) := by decide +kernel
theorem dX7_spent_59 : decode cX7_spent 59 = .ok (.istore_n 3, 1) := by decide +kernel
theorem dX7_spent_60 : decode cX7_spent 60 = .ok (.iinc 4 1, 3) := by decide +kernel
theorem dX7_spent_63 : decode cX7_spent 63 = .ok (.goto (-43), 3) := by decide +kernel
theorem dX7_spent_66 : decode cX7_spent 66 = .ok (.aload_n 0, 1) := by decide +kernel
theorem dX7_spent_67 : decode cX7_spent 67 = .ok (.getfield 61, 3) := by decide +kernel
theorem dX7_spent_70 : decode cX7_spent 70 = .ok (.iload_n 2, 1) := by decide +kernel
theorem dX7_spent_71 : decode cX7_spent 71 = .ok (.invokestatic 193, 3) := by decide +kernel
theorem dX7_spent_74 : decode cX7_spent 74 = .ok (.i2l, 1) := by decide +kernel
theorem dX7_spent_75 : decode cX7_spent 75 = .ok (.iload_n 3, 1) := by decide +kernel
theorem dX7_spent_76 : decode cX7_spent 76 = .ok (.i2l, 1) := by decide +kernel
theorem dX7_spent_77 : decode cX7_spent 77 = .ok (.invokevirtual 208, 3) := by decide +kernel
theorem dX7_spent_80 : decode cX7_spent 80 = .ok (.iload_n 2, 1) := by decide +kernel
theorem dX7_spent_81 : decode cX7_spent 81 = .ok (.ireturn, 1) := by decide +kernel
theorem dX7_sure_0 : decode cX7_sure 0 = .ok (.iload_n 1, 1) := by decide +kernel
theorem dX7_sure_1 : decode cX7_sure 1 = .ok (.ifCond .lt 25, 3) := by decide +kernel
theorem dX7_sure_4 : decode cX7_sure 4 = .ok (.iload_n 1, 1) := by decide +kernel
theorem dX7_sure_5 : decode cX7_sure 5 = .ok (.aload_n 0, 1) := by decide +kernel
theorem dX7_sure_6 : decode cX7_sure 6 = .ok (.getfield 19, 3) := by decide +kernel
theorem dX7_sure_9 : decode cX7_sure 9 = .ok (.getfield 141, 3) := by decide +kernel
theorem dX7_sure_12 : decode cX7_sure 12 = .ok (.if_icmp .ge 14, 3) := by decide +kernel
theorem dX7_sure_15 : decode cX7_sure 15 = .ok (.aload_n 0, 1) := by decide +kernel
theorem dX7_sure_16 : decode cX7_sure 16 = .ok (.getfield 19, 3) := by decide +kernel
theorem dX7_sure_19 : decode cX7_sure 19 = .ok (.iload_n 2, 1) := by decide +kernel
theorem dX7_sure_20 : decode cX7_sure 20 = .ok (.invokevirtual 110, 3) := by decide +kernel
theorem dX7_sure_23 : decode cX7_sure 23 = .ok (.ifCond .ne 5, 3) := by decide +kernel
theorem dX7_sure_26 : decode cX7_sure 26 = .ok (.iconst (-1), 1) := by decide +kernel
theorem dX7_sure_27 : decode cX7_sure 27 = .ok (.ireturn, 1) := by decide +kernel
theorem dX7_sure_28 : decode cX7_sure 28 = .ok (.aload_n 0, 1) := by decide +kernel
theorem dX7_sure_29 : decode cX7_sure 29 = .ok (.invokevirtual 348, 3) := by decide +kernel
theorem dX7_sure_32 : decode cX7_sure 32 = .ok (.aload_n 0, 1) := by decide +kernel
theorem dX7_sure_33 : decode cX7_sure 33 = .ok (.getfield 54, 3) := by decide +kernel
theorem dX7_sure_36 : decode cX7_sure 36 = .ok (.invokevirtual 351, 3) := by decide +kernel
theorem dX7_sure_39 : decode cX7_sure 39 = .ok (.istore_n 3, 1) := by decide +kernel
theorem dX7_sure_40 : decode cX7_sure 40 = .ok (.iload_n 3, 1) := by decide +kernel
theorem dX7_sure_41 : decode cX7_sure 41 = .ok (.ifCond .ne 6, 3) := by decide +kernel
theorem dX7_sure_44 : decode cX7_sure 44 = .ok (.bipush (-2), 2) := by decide +kernel
theorem dX7_sure_46 : decode cX7_sure 46 = .ok (.ireturn, 1) := by decide +kernel
theorem dX7_sure_47 : decode cX7_sure 47 = .ok (.aload_n 0, 1) := by decide +kernel
theorem dX7_sure_48 : decode cX7_sure 48 = .ok (.getfield 54, 3) := by decide +kernel
theorem dX7_sure_51 : decode cX7_sure 51 = .ok (.iload_n 1, 1) := by decide +kernel
theorem dX7_sure_52 : decode cX7_sure 52 = .ok (.iload_n 2, 1) := by decide +kernel
theorem dX7_sure_53 : decode cX7_sure 53 = .ok (.invokevirtual 354, 3) := by decide +kernel
theorem dX7_sure_56 : decode cX7_sure 56 = .ok (.aload_n 0, 1) := by decide +kernel
theorem dX7_sure_57 : decode cX7_sure 57 = .ok (.getfield 54, 3) := by decide +kernel
theorem dX7_sure_60 : decode cX7_sure 60 = .ok (.invokevirtual 351, 3) := by decide +kernel
theorem dX7_sure_63 : decode cX7_sure 63 = .ok (.istore 4, 2) := by decide +kernel
theorem dX7_sure_65 : decode cX7_sure 65 = .ok (.aload_n 0, 1) := by decide +kernel
theorem dX7_sure_66 : decode cX7_sure 66 = .ok (.iload 4, 2) := by decide +kernel
theorem dX7_sure_68 : decode cX7_sure 68 = .ok (.i2l, 1) := by decide +kernel
theorem dX7_sure_69 : decode cX7_sure 69 = .ok (.iload_n 3, 1) := by decide +kernel
theorem dX7_sure_70 : decode cX7_sure 70 = .ok (.i2l, 1) := by decide +kernel
theorem dX7_sure_71 : decode cX7_sure 71 = .ok (.invokevirtual 358, 3) := by decide +kernel
theorem dX7_sure_74 : decode cX7_sure 74 = .ok (.iload 4, 2) := by decide +kernel
theorem dX7_sure_76 : decode cX7_sure 76 = .ok (.ireturn, 1) := by decide +kernel
theorem dX7_takeRota_0 : decode cX7_takeRota 0 = .ok (.iconst 0, 1) := by decide +kernel
theorem dX7_takeRota_1 : decode cX7_takeRota 1 = .ok (.istore_n 1, 1) := by decide +kernel
theorem dX7_takeRota_2 : decode cX7_takeRota 2 = .ok (.iconst 0, 1) := by decide +kernel
theorem dX7_takeRota_3 : decode cX7_takeRota 3 = .ok (.istore_n 2, 1) := by decide +kernel
theorem dX7_takeRota_4 : decode cX7_takeRota 4 = .ok (.iload_n 2, 1) := by decide +kernel
theorem dX7_takeRota_5 : decode cX7_takeRota 5 = .ok (.bipush 8, 2) := by decide +kernel
theorem dX7_takeRota_7 : decode cX7_takeRota 7 = .ok (.if_icmp .ge 71, 3) := by decide +kernel
theorem dX7_takeRota_10 : decode cX7_takeRota 10 = .ok (.iload_n 2, 1) := by decide +kernel
theorem dX7_takeRota_11 : decode cX7_takeRota 11 = .ok (.aload_n 0, 1) := by decide +kernel
theorem dX7_takeRota_12 : decode cX7_takeRota 12 = .ok (.getfield 19, 3) := by decide +kernel
theorem dX7_takeRota_15 : decode cX7_takeRota 15 = .ok (.getfield 141, 3) := by decide +kernel
theorem dX7_takeRota_18 : decode cX7_takeRota 18 = .ok (.if_icmp .ge 14, 3) := by decide +kernel
theorem dX7_takeRota_21 : decode cX7_takeRota 21 = .ok (.aload_n 0, 1) := by decide +kernel
theorem dX7_takeRota_22 : decode cX7_takeRota 22 = .ok (.getfield 10, 3) := by decide +kernel
theorem dX7_takeRota_25 : decode cX7_takeRota 25 = .ok (.iload_n 2, 1) := by decide +kernel
theorem dX7_takeRota_26 : decode cX7_takeRota 26 = .ok (.invokevirtual 218, 3) := by decide +kernel
theorem dX7_takeRota_29 : decode cX7_takeRota 29 = .ok (.goto 5, 3) := by decide +kernel
theorem dX7_takeRota_32 : decode cX7_takeRota 32 = .ok (.bipush 45, 2) := by decide +kernel
theorem dX7_takeRota_34 : decode cX7_takeRota 34 = .ok (.istore_n 3, 1) := by decide +kernel
theorem dX7_takeRota_35 : decode cX7_takeRota 35 = .ok (.aload_n 0, 1) := by decide +kernel
theorem dX7_takeRota_36 : decode cX7_takeRota 36 = .ok (.getfield 26, 3) := by decide +kernel
theorem dX7_takeRota_39 : decode cX7_takeRota 39 = .ok (.getfield 183, 3) := by decide +kernel
theorem dX7_takeRota_42 : decode cX7_takeRota 42 = .ok (.iload_n 2, 1) := by decide +kernel
theorem dX7_takeRota_43 : decode cX7_takeRota 43 = .ok (.iload_n 3, 1) := by decide +kernel
theorem dX7_takeRota_44 : decode cX7_takeRota 44 = .ok (.bipush 45, 2) := by decide +kernel
theorem dX7_takeRota_46 : decode cX7_takeRota 46 = .ok (.if_icmp .ne 7, 3) := by decide +kernel
theorem dX7_takeRota_49 : decode cX7_takeRota 49 = .ok (.iconst (-1), 1) := by decide +kernel
theorem dX7_takeRota_50 : decode cX7_takeRota 50 = .ok (.goto 7, 3) := by decide +kernel
theorem dX7_takeRota_53 : decode cX7_takeRota 53 = .ok (.iload_n 3, 1) := by decide +kernel
theorem dX7_takeRota_54 : decode cX7_takeRota 54 = .ok (.bipush 48, 2) := by decide +kernel
theorem dX7_takeRota_56 : decode cX7_takeRota 56 = .ok (.isub, 1) := by decide +kernel
theorem dX7_takeRota_57 : decode cX7_takeRota 57 = .ok (.iastore, 1) := by decide +kernel
theorem dX7_takeRota_58 : decode cX7_takeRota 58 = .ok (.iload_n 1, 1) := by decide +kernel
theorem dX7_takeRota_59 : decode cX7_takeRota 59 = .ok (.iload_n 3, 1) := by decide +kernel
theorem dX7_takeRota_60 : decode cX7_takeRota 60 = .ok (.bipush 45, 2) := by decide +kernel
theorem dX7_takeRota_62 : decode cX7_takeRota 62 = .ok (.if_icmp .ne 7, 3) := by decide +kernel
theorem dX7_takeRota_65 : decode cX7_takeRota 65 = .ok (.iconst 0, 1) := by decide +kernel
theorem dX7_takeRota_66 : decode cX7_takeRota 66 = .ok (.goto 4, 3) := by decide +kernel
theorem dX7_takeRota_69 : decode cX7_takeRota 69 = .ok (.iconst 1, 1) := by decide +kernel
theorem dX7_takeRota_70 : decode cX7_takeRota 70 = .ok (.iadd, 1) := by decide +kernel
theorem dX7_takeRota_71 : decode cX7_takeRota 71 = .ok (.istore_n 1, 1) := by decide +kernel
theorem dX7_takeRota_72 : decode cX7_takeRota 72 = .ok (.iinc 2 1, 3) := by decide +kernel
theorem dX7_takeRota_75 : decode cX7_takeRota 75 = .ok (.goto (-71), 3) := by decide +kernel
theorem dX7_takeRota_78 : decode cX7_takeRota 78 = .ok (.iload_n 1, 1) := by decide +kernel
theorem dX7_takeRota_79 : decode cX7_takeRota 79 = .ok (.ireturn, 1) := by decide +kernel
theorem dX7_takes_0 : decode cX7_takes 0 = .ok (.aload_n 0, 1) := by decide +kernel
theorem dX7_takes_1 : decode cX7_takes 1 = .ok (.iconst (-1), 1) := by decide +kernel
theorem dX7_takes_2 : decode cX7_takes 2 = .ok (.invokevirtual 258, 3) := by decide +kernel
theorem dX7_takes_5 : decode cX7_takes 5 = .ok (.lstore_n 1, 1) := by decide +kernel
theorem dX7_takes_6 : decode cX7_takes 6 = .ok (.lload_n 1, 1) := by decide +kernel
theorem dX7_takes_7 : decode cX7_takes 7 = .ok (.ldc2_w 262, 3) := by decide +kernel
theorem dX7_takes_10 : decode cX7_takes 10 = .ok (.lcmp, 1) := by decide +kernel
theorem dX7_takes_11 : decode cX7_takes 11 = .ok (.ifCond .lt 6, 3) := by decide +kernel
theorem dX7_takes_14 : decode cX7_takes 14 = .ok (.bipush (-2), 2) := by decide +kernel
theorem dX7_takes_16 : decode cX7_takes 16 = .ok (.ireturn, 1) := by decide +kernel
theorem dX7_takes_17 : decode cX7_takes 17 = .ok (.aload_n 0, 1) := by decide +kernel
theorem dX7_takes_18 : decode cX7_takes 18 = .ok (.getfield 39, 3) := by decide +kernel
theorem dX7_takes_21 : decode cX7_takes 21 = .ok (.aload_n 0, 1) := by decide +kernel
theorem dX7_takes_22 : decode cX7_takes 22 = .ok (.getfield 26, 3) := by decide +kernel
theorem dX7_takes_25 : decode cX7_takes 25 = .ok (.invokevirtual 177, 3) := by decide +kernel
theorem dX7_takes_28 : decode cX7_takes 28 = .ok (.iconst 0, 1) := by decide +kernel
theorem dX7_takes_29 : decode cX7_takes 29 = .ok (.istore_n 3, 1) := by decide +kernel
theorem dX7_takes_30 : decode cX7_takes 30 = .ok (.iconst 0, 1) := by decide +kernel
theorem dX7_takes_31 : decode cX7_takes 31 = .ok (.istore 4, 2) := by decide +kernel
theorem dX7_takes_33 : decode cX7_takes 33 = .ok (.iload 4, 2) := by decide +kernel
theorem dX7_takes_35 : decode cX7_takes 35 = .ok (.aload_n 0, 1) := by decide +kernel
theorem dX7_takes_36 : decode cX7_takes 36 = .ok (.getfield 19, 3) := by decide +kernel
theorem dX7_takes_39 : decode cX7_takes 39 = .ok (.getfield 141, 3) := by decide +kernel
theorem dX7_takes_42 : decode cX7_takes 42 = .ok (.if_icmp .ge 52, 3) := by decide +kernel
theorem dX7_takes_45 : decode cX7_takes 45 = .ok (.lload_n 1, 1) := by decide +kernel
theorem dX7_takes_46 : decode cX7_takes 46 = .ok (.iload 4, 2) := by decide +kernel
theorem dX7_takes_48 : decode cX7_takes 48 = .ok (.invokestatic 293, 3) := by decide +kernel
theorem dX7_takes_51 : decode cX7_takes 51 = .ok (.istore 5, 2) := by decide +kernel
theorem dX7_takes_53 : decode cX7_takes 53 = .ok (.iload_n 3, 1) := by decide +kernel
theorem dX7_takes_54 : decode cX7_takes 54 = .ok (.aload_n 0, 1) := by decide +kernel
theorem dX7_takes_55 : decode cX7_takes 55 = .ok (.getfield 26, 3) := by decide +kernel
theorem dX7_takes_58 : decode cX7_takes 58 = .ok (.getfield 183, 3) := by decide +kernel
theorem dX7_takes_61 : decode cX7_takes 61 = .ok (.iload 4, 2) := by decide +kernel
theorem dX7_takes_63 : decode cX7_takes 63 = .ok (.iaload, 1) := by decide +kernel
theorem dX7_takes_64 : decode cX7_takes 64 = .ok (.iload 5, 2) := by decide +kernel
theorem dX7_takes_66 : decode cX7_takes 66 = .ok (.if_icmp .ne 7, 3) := by decide +kernel
theorem dX7_takes_69 : decode cX7_takes 69 = .ok (.iconst 0, 1) := by decide +kernel
theorem dX7_takes_70 : decode cX7_takes 70 = .ok (.goto 4, 3) := by decide +kernel
theorem dX7_takes_73 : decode cX7_takes 73 = .ok (.iconst 1, 1) := by decide +kernel
theorem dX7_takes_74 : decode cX7_takes 74 = .ok (.iadd, 1) := by decide +kernel
theorem dX7_takes_75 : decode cX7_takes 75 = .ok (.istore_n 3, 1) := by decide +kernel
theorem dX7_takes_76 : decode cX7_takes 76 = .ok (.aload_n 0, 1) := by decide +kernel
theorem dX7_takes_77 : decode cX7_takes 77 = .ok (.getfield 26, 3) := by decide +kernel
theorem dX7_takes_80 : decode cX7_takes 80 = .ok (.getfield 183, 3) := by decide +kernel
theorem dX7_takes_83 : decode cX7_takes 83 = .ok (.iload 4, 2) := by decide +kernel
theorem dX7_takes_85 : decode cX7_takes 85 = .ok (.iload 5, 2) := by decide +kernel
theorem dX7_takes_87 : decode cX7_takes 87 = .ok (.iastore, 1) := by decide +kernel
theorem dX7_takes_88 : decode cX7_takes 88 = .ok (.iinc 4 1, 3) := by decide +kernel
theorem dX7_takes_91 : decode cX7_takes 91 = .ok (.goto (-58), 3) := by decide +kernel
theorem dX7_takes_94 : decode cX7_takes 94 = .ok (.iload_n 3, 1) := by decide +kernel
theorem dX7_takes_95 : decode cX7_takes 95 = .ok (.ireturn, 1) := by decide +kernel
theorem dX7_tellFraction_0 : decode cX7_tellFraction 0 = .ok (.lload_n 1, 1) := by decide +kernel
theorem dX7_tellFraction_1 : decode cX7_tellFraction 1 = .ok (.lload_n 3, 1) := by decide +kernel
theorem dX7_tellFraction_2 : decode cX7_tellFraction 2 = .ok (.invokestatic 403, 3) := by decide +kernel
theorem dX7_tellFraction_5 : decode cX7_tellFraction 5 = .ok (.lstore 5, 2) := by decide +kernel
theorem dX7_tellFraction_7 : decode cX7_tellFraction 7 = .ok (.lload 5, 2) := by decide +kernel
theorem dX7_tellFraction_9 : decode cX7_tellFraction 9 = .ok (.lconst 0, 1) := by decide +kernel
theorem dX7_tellFraction_10 : decode cX7_tellFraction 10 = .ok (.lcmp, 1) := by decide +kernel
theorem dX7_tellFraction_11 : decode cX7_tellFraction 11 = .ok (.ifCond .le 18, 3) := by decide +kernel
theorem dX7_tellFraction_14 : decode cX7_tellFraction 14 = .ok (.aload_n 0, 1) := by decide +kernel
theorem dX7_tellFraction_15 : decode cX7_tellFraction 15 = .ok (.getfield 61, 3) := by decide +kernel
theorem dX7_tellFraction_18 : decode cX7_tellFraction 18 = .ok (.lload_n 1, 1) := by decide +kernel
theorem dX7_tellFraction_19 : decode cX7_tellFraction 19 = .ok (.lload 5, 2) := by decide +kernel
theorem dX7_tellFraction_21 : decode cX7_tellFraction 21 = .ok (.ldiv, 1) := by decide +kernel
theorem dX7_tellFraction_22 : decode cX7_tellFraction 22 = .ok (.lload_n 3, 1) := by decide +kernel
theorem dX7_tellFraction_23 : decode cX7_tellFraction 23 = .ok (.lload 5, 2) := by decide +kernel
theorem dX7_tellFraction_25 : decode cX7_tellFraction 25 = .ok (.ldiv, 1) := by decide +kernel
theorem dX7_tellFraction_26 : decode cX7_tellFraction 26 = .ok (.invokevirtual 208, 3) := by decide +kernel
theorem dX7_tellFraction_29 : decode cX7_tellFraction 29 = .ok (.return_, 1) := by decide +kernel
theorem dX7_tellRota_0 : decode cX7_tellRota 0 = .ok (.aload_n 0, 1) := by decide +kernel
theorem dX7_tellRota_1 : decode cX7_tellRota 1 = .ok (.getfield 61, 3) := by decide +kernel
theorem dX7_tellRota_4 : decode cX7_tellRota 4 = .ok (.invokevirtual 316, 3) := by decide +kernel
theorem dX7_tellRota_7 : decode cX7_tellRota 7 = .ok (.iconst 0, 1) := by decide +kernel
theorem dX7_tellRota_8 : decode cX7_tellRota 8 = .ok (.istore_n 3, 1) := by decide +kernel
theorem dX7_tellRota_9 : decode cX7_tellRota 9 = .ok (.iload_n 3, 1) := by decide +kernel
theorem dX7_tellRota_10 : decode cX7_tellRota 10 = .ok (.aload_n 0, 1) := by decide +kernel
theorem dX7_tellRota_11 : decode cX7_tellRota 11 = .ok (.getfield 19, 3) := by decide +kernel
theorem dX7_tellRota_14 : decode cX7_tellRota 14 = .ok (.getfield 141, 3) := by decide +kernel
theorem dX7_tellRota_17 : decode cX7_tellRota 17 = .ok (.if_icmp .ge 22, 3) := by decide +kernel
theorem dX7_tellRota_20 : decode cX7_tellRota 20 = .ok (.aload_n 0, 1) := by decide +kernel
theorem dX7_tellRota_21 : decode cX7_tellRota 21 = .ok (.getfield 61, 3) := by decide +kernel
theorem dX7_tellRota_24 : decode cX7_tellRota 24 = .ok (.lload_n 1, 1) := by decide +kernel
theorem dX7_tellRota_25 : decode cX7_tellRota 25 = .ok (.iload_n 3, 1) := by decide +kernel
theorem dX7_tellRota_26 : decode cX7_tellRota 26 = .ok (.invokestatic 293, 3) := by decide +kernel
theorem dX7_tellRota_29 : decode cX7_tellRota 29 = .ok (.i2l, 1) := by decide +kernel
theorem dX7_tellRota_30 : decode cX7_tellRota 30 = .ok (.invokevirtual 256, 3) := by decide +kernel
theorem dX7_tellRota_33 : decode cX7_tellRota 33 = .ok (.iinc 3 1, 3) := by decide +kernel
theorem dX7_tellRota_36 : decode cX7_tellRota 36 = .ok (.goto (-27), 3) := by decide +kernel
theorem dX7_tellRota_39 : decode cX7_tellRota 39 = .ok (.lload_n 1, 1) := by decide +kernel
theorem dX7_tellRota_40 : decode cX7_tellRota 40 = .ok (.invokestatic 297, 3) := by decide +kernel
theorem dX7_tellRota_43 : decode cX7_tellRota 43 = .ok (.ireturn, 1) := by decide +kernel
theorem dX7_tellWays_0 : decode cX7_tellWays 0 = .ok (.aload_n 0, 1) := by decide +kernel
theorem dX7_tellWays_1 : decode cX7_tellWays 1 = .ok (.getfield 54, 3) := by decide +kernel
theorem dX7_tellWays_4 : decode cX7_tellWays 4 = .ok (.invokevirtual 351, 3) := by decide +kernel
theorem dX7_tellWays_7 : decode cX7_tellWays 7 = .ok (.istore_n 1, 1) := by decide +kernel
theorem dX7_tellWays_8 : decode cX7_tellWays 8 = .ok (.aload_n 0, 1) := by decide +kernel
theorem dX7_tellWays_9 : decode cX7_tellWays 9 = .ok (.getfield 61, 3) := by decide +kernel
theorem dX7_tellWays_12 : decode cX7_tellWays 12 = .ok (.invokevirtual 316, 3) := by decide +kernel
theorem dX7_tellWays_15 : decode cX7_tellWays 15 = .ok (.iload_n 1, 1) := by decide +kernel
theorem dX7_tellWays_16 : decode cX7_tellWays 16 = .ok (.ifCond .le 19, 3) := by decide +kernel
theorem dX7_tellWays_19 : decode cX7_tellWays 19 = .ok (.aload_n 0, 1) := by decide +kernel
theorem dX7_tellWays_20 : decode cX7_tellWays 20 = .ok (.invokevirtual 339, 3) := by decide +kernel
theorem dX7_tellWays_23 : decode cX7_tellWays 23 = .ok (.aload_n 0, 1) := by decide +kernel
theorem dX7_tellWays_24 : decode cX7_tellWays 24 = .ok (.aload_n 0, 1) := by decide +kernel
theorem dX7_tellWays_25 : decode cX7_tellWays 25 = .ok (.getfield 54, 3) := by decide +kernel
theorem dX7_tellWays_28 : decode cX7_tellWays 28 = .ok (.invokevirtual 275, 3) := by decide +kernel
theorem dX7_tellWays_31 : decode cX7_tellWays 31 = .ok (.invokevirtual 264, 3) := by decide +kernel
theorem dX7_tellWays_34 : decode cX7_tellWays 34 = .ok (.pop, 1) := by decide +kernel
theorem dX7_tellWays_35 : decode cX7_tellWays 35 = .ok (.iload_n 1, 1) := by decide +kernel
theorem dX7_tellWays_36 : decode cX7_tellWays 36 = .ok (.ireturn, 1) := by decide +kernel
theorem dX7_thin_0 : decode cX7_thin 0 = .ok (.bipush 9, 2) := by decide +kernel
theorem dX7_thin_2 : decode cX7_thin 2 = .ok (.istore_n 1, 1) := by decide +kernel
theorem dX7_thin_3 : decode cX7_thin 3 = .ok (.iconst 0, 1) := by decide +kernel
theorem dX7_thin_4 : decode cX7_thin 4 = .ok (.istore_n 2, 1) := by decide +kernel
theorem dX7_thin_5 : decode cX7_thin 5 = .ok (.iconst 0, 1) := by decide +kernel
theorem dX7_thin_6 : decode cX7_thin 6 = .ok (.istore_n 3, 1) := by decide +kernel
theorem dX7_thin_7 : decode cX7_thin 7 = .ok (.iload_n 3, 1) := by decide +kernel
theorem dX7_thin_8 : decode cX7_thin 8 = .ok (.aload_n 0, 1) := by decide +kernel
theorem dX7_thin_9 : decode cX7_thin 9 = .ok (.getfield 19, 3) := by decide +kernel
theorem dX7_thin_12 : decode cX7_thin 12 = .ok (.getfield 141, 3) := by decide +kernel
theorem dX7_thin_15 : decode cX7_thin 15 = .ok (.if_icmp .ge 71, 3) := by decide +kernel
theorem dX7_thin_18 : decode cX7_thin 18 = .ok (.iconst 0, 1) := by decide +kernel
theorem dX7_thin_19 : decode cX7_thin 19 = .ok (.istore 4, 2) := by decide +kernel
theorem dX7_thin_21 : decode cX7_thin 21 = .ok (.iconst 0, 1) := by decide +kernel
theorem dX7_thin_22 : decode cX7_thin 22 = .ok (.istore 5, 2) := by decide +kernel
theorem dX7_thin_24 : decode cX7_thin 24 = .ok (.iload 5, 2) := by decide +kernel
theorem dX7_thin_26 : decode cX7_thin 26 = .ok (.aload_n 0, 1) := by decide +kernel
theorem dX7_thin_27 : decode cX7_thin 27 = .ok (.getfield 19, 3) := by decide +kernel
theorem dX7_thin_30 : decode cX7_thin 30 = .ok (.getfield 154, 3) := by decide +kernel
theorem dX7_thin_33 : decode cX7_thin 33 = .ok (.if_icmp .ge 36, 3) := by decide +kernel
theorem dX7_thin_36 : decode cX7_thin 36 = .ok (.iload 4, 2) := by decide +kernel
theorem dX7_thin_38 : decode cX7_thin 38 = .ok (.aload_n 0, 1) := by decide +kernel
theorem dX7_thin_39 : decode cX7_thin 39 = .ok (.getfield 19, 3) := by decide +kernel
theorem dX7_thin_42 : decode cX7_thin 42 = .ok (.aload_n 0, 1) := by decide +kernel
theorem dX7_thin_43 : decode cX7_thin 43 = .ok (.getfield 26, 3) := by decide +kernel
theorem dX7_thin_46 : decode cX7_thin 46 = .ok (.iload 5, 2) := by decide +kernel
theorem dX7_thin_48 : decode cX7_thin 48 = .ok (.iload_n 3, 1) := by decide +kernel
theorem dX7_thin_49 : decode cX7_thin 49 = .ok (.invokevirtual 332, 3) := by decide +kernel
theorem dX7_thin_52 : decode cX7_thin 52 = .ok (.ifCond .eq 7, 3) := by decide +kernel
theorem dX7_thin_55 : decode cX7_thin 55 = .ok (.iconst 1, 1) := by decide +kernel
theorem dX7_thin_56 : decode cX7_thin 56 = .ok (.goto 4, 3) := by decide +kernel
theorem dX7_thin_59 : decode cX7_thin 59 = .ok (.iconst 0, 1) := by decide +kernel
theorem dX7_thin_60 : decode cX7_thin 60 = .ok (.iadd, 1) := by decide +kernel
theorem dX7_thin_61 : decode cX7_thin 61 = .ok (.istore 4, 2) := by decide +kernel
theorem dX7_thin_63 : decode cX7_thin 63 = .ok (.iinc 5 1, 3) := by decide +kernel
theorem dX7_thin_66 : decode cX7_thin 66 = .ok (.goto (-42), 3) := by decide +kernel
theorem dX7_thin_69 : decode cX7_thin 69 = .ok (.iload 4, 2) := by decide +kernel
theorem dX7_thin_71 : decode cX7_thin 71 = .ok (.iload_n 1, 1) := by decide +kernel
theorem dX7_thin_72 : decode cX7_thin 72 = .ok (.if_icmp .ge 8, 3) := by decide +kernel
theorem dX7_thin_75 : decode cX7_thin 75 = .ok (.iload 4, 2) := by decide +kernel
theorem dX7_thin_77 : decode cX7_thin 77 = .ok (.istore_n 1, 1) := by decide +kernel
theorem dX7_thin_78 : decode cX7_thin 78 = .ok (.iload_n 3, 1) := by decide +kernel
theorem dX7_thin_79 : decode cX7_thin 79 = .ok (.istore_n 2, 1) := by decide +kernel
theorem dX7_thin_80 : decode cX7_thin 80 = .ok (.iinc 3 1, 3) := by decide +kernel
theorem dX7_thin_83 : decode cX7_thin 83 = .ok (.goto (-76), 3) := by decide +kernel
theorem dX7_thin_86 : decode cX7_thin 86 = .ok (.aload_n 0, 1) := by decide +kernel
theorem dX7_thin_87 : decode cX7_thin 87 = .ok (.getfield 61, 3) := by decide +kernel
theorem dX7_thin_90 : decode cX7_thin 90 = .ok (.iload_n 1, 1) := by decide +kernel
theorem dX7_thin_91 : decode cX7_thin 91 = .ok (.i2l, 1) := by decide +kernel
theorem dX7_thin_92 : decode cX7_thin 92 = .ok (.invokevirtual 247, 3) := by decide +kernel
theorem dX7_thin_95 : decode cX7_thin 95 = .ok (.iload_n 2, 1) := by decide +kernel
theorem dX7_thin_96 : decode cX7_thin 96 = .ok (.ireturn, 1) := by decide +kernel
theorem dX7_trade_0 : decode cX7_trade 0 = .ok (.aload_n 0, 1) := by decide +kernel
theorem dX7_trade_1 : decode cX7_trade 1 = .ok (.getfield 19, 3) := by decide +kernel
theorem dX7_trade_4 : decode cX7_trade 4 = .ok (.getfield 141, 3) := by decide +kernel
theorem dX7_trade_7 : decode cX7_trade 7 = .ok (.iconst 2, 1) := by decide +kernel
theorem dX7_trade_8 : decode cX7_trade 8 = .ok (.if_icmp .ge 6, 3) := by decide +kernel
theorem dX7_trade_11 : decode cX7_trade 11 = .ok (.bipush (-2), 2) := by decide +kernel
theorem dX7_trade_13 : decode cX7_trade 13 = .ok (.ireturn, 1) := by decide +kernel
theorem dX7_trade_14 : decode cX7_trade 14 = .ok (.aload_n 0, 1) := by decide +kernel
theorem dX7_trade_15 : decode cX7_trade 15 = .ok (.getfield 33, 3) := by decide +kernel
theorem dX7_trade_18 : decode cX7_trade 18 = .ok (.aload_n 0, 1) := by decide +kernel
theorem dX7_trade_19 : decode cX7_trade 19 = .ok (.getfield 26, 3) := by decide +kernel
theorem dX7_trade_22 : decode cX7_trade 22 = .ok (.invokevirtual 170, 3) := by decide +kernel
theorem dX7_trade_25 : decode cX7_trade 25 = .ok (.bipush 9, 2) := by decide +kernel
theorem dX7_trade_27 : decode cX7_trade 27 = .ok (.istore_n 1, 1) := by decide +kernel
theorem dX7_trade_28 : decode cX7_trade 28 = .ok (.iconst 0, 1) := by decide +kernel
theorem dX7_trade_29 : decode cX7_trade 29 = .ok (.istore_n 2, 1) := by decide +kernel
theorem dX7_trade_30 : decode cX7_trade 30 = .ok (.iconst 0, 1) := by decide +kernel
theorem dX7_trade_31 : decode cX7_trade 31 = .ok (.istore_n 3, 1) := by decide +kernel
theorem dX7_trade_32 : decode cX7_trade 32 = .ok (.iconst 0, 1) := by decide +kernel
theorem dX7_trade_33 : decode cX7_trade 33 = .ok (.istore 4, 2) := by decide +kernel
theorem dX7_trade_35 : decode cX7_trade 35 = .ok (.iload 4, 2) := by decide +kernel
theorem dX7_trade_37 : decode cX7_trade 37 = .ok (.aload_n 0, 1) := by decide +kernel
theorem dX7_trade_38 : decode cX7_trade 38 = .ok (.getfield 19, 3) := by decide +kernel
theorem dX7_trade_41 : decode cX7_trade 41 = .ok (.getfield 141, 3) := by decide +kernel
theorem dX7_trade_44 : decode cX7_trade 44 = .ok (.if_icmp .ge 58, 3) := by decide +kernel
theorem dX7_trade_47 : decode cX7_trade 47 = .ok (.iload 4, 2) := by decide +kernel
theorem dX7_trade_49 : decode cX7_trade 49 = .ok (.iconst 1, 1) := by decide +kernel
theorem dX7_trade_50 : decode cX7_trade 50 = .ok (.iadd, 1) := by decide +kernel
theorem dX7_trade_51 : decode cX7_trade 51 = .ok (.istore 5, 2) := by decide +kernel
theorem dX7_trade_53 : decode cX7_trade 53 = .ok (.iload 5, 2) := by decide +kernel
theorem dX7_trade_55 : decode cX7_trade 55 = .ok (.aload_n 0, 1) := by decide +kernel
theorem dX7_trade_56 : decode cX7_trade 56 = .ok (.getfield 19, 3) := by decide +kernel
theorem dX7_trade_59 : decode cX7_trade 59 = .ok (.getfield 141, 3) := by decide +kernel
theorem dX7_trade_62 : decode cX7_trade 62 = .ok (.if_icmp .ge 34, 3) := by decide +kernel
theorem dX7_trade_65 : decode cX7_trade 65 = .ok (.aload_n 0, 1) := by decide +kernel
theorem dX7_trade_66 : decode cX7_trade 66 = .ok (.iload 4, 2) := by decide +kernel
theorem dX7_trade_68 : decode cX7_trade 68 = .ok (.iload 5, 2) := by decide +kernel
theorem dX7_trade_70 : decode cX7_trade 70 = .ok (.invokevirtual 253, 3) := by decide +kernel
theorem dX7_trade_73 : decode cX7_trade 73 = .ok (.istore 6, 2) := by decide +kernel
theorem dX7_trade_75 : decode cX7_trade 75 = .ok (.iload 6, 2) := by decide +kernel
theorem dX7_trade_77 : decode cX7_trade 77 = .ok (.iload_n 1, 1) := by decide +kernel
theorem dX7_trade_78 : decode cX7_trade 78 = .ok (.if_icmp .ge 12, 3) := by decide +kernel
theorem dX7_trade_81 : decode cX7_trade 81 = .ok (.iload 6, 2) := by decide +kernel
theorem dX7_trade_83 : decode cX7_trade 83 = .ok (.istore_n 1, 1) := by decide +kernel
theorem dX7_trade_84 : decode cX7_trade 84 = .ok (.iload 4, 2) := by decide +kernel
theorem dX7_trade_86 : decode cX7_trade 86 = .ok (.istore_n 2, 1) := by decide +kernel
theorem dX7_trade_87 : decode cX7_trade 87 = .ok (.iload 5, 2) := by decide +kernel
theorem dX7_trade_89 : decode cX7_trade 89 = .ok (.istore_n 3, 1) := by decide +kernel
theorem dX7_trade_90 : decode cX7_trade 90 = .ok (.iinc 5 1, 3) := by decide +kernel
theorem dX7_trade_93 : decode cX7_trade 93 = .ok (.goto (-40), 3) := by decide +kernel
theorem dX7_trade_96 : decode cX7_trade 96 = .ok (.iinc 4 1, 3) := by decide +kernel
theorem dX7_trade_99 : decode cX7_trade 99 = .ok (.goto (-64), 3) := by decide +kernel
theorem dX7_trade_102 : decode cX7_trade 102 = .ok (.aload_n 0, 1) := by decide +kernel
theorem dX7_trade_103 : decode cX7_trade 103 = .ok (.getfield 19, 3) := by decide +kernel
theorem dX7_trade_106 : decode cX7_trade 106 = .ok (.aload_n 0, 1) := by decide +kernel
theorem dX7_trade_107 : decode cX7_trade 107 = .ok (.getfield 26, 3) := by decide +kernel
theorem dX7_trade_110 : decode cX7_trade 110 = .ok (.invokevirtual 232, 3) := by decide +kernel
theorem dX7_trade_113 : decode cX7_trade 113 = .ok (.aload_n 0, 1) := by decide +kernel
theorem dX7_trade_114 : decode cX7_trade 114 = .ok (.getfield 61, 3) := by decide +kernel
theorem dX7_trade_117 : decode cX7_trade 117 = .ok (.iload_n 2, 1) := by decide +kernel
theorem dX7_trade_118 : decode cX7_trade 118 = .ok (.i2l, 1) := by decide +kernel
theorem dX7_trade_119 : decode cX7_trade 119 = .ok (.iload_n 3, 1) := by decide +kernel
theorem dX7_trade_120 : decode cX7_trade 120 = .ok (.i2l, 1) := by decide +kernel
theorem dX7_trade_121 : decode cX7_trade 121 = .ok (.invokevirtual 208, 3) := by decide +kernel
theorem dX7_trade_124 : decode cX7_trade 124 = .ok (.aload_n 0, 1) := by decide +kernel
theorem dX7_trade_125 : decode cX7_trade 125 = .ok (.getfield 61, 3) := by decide +kernel
theorem dX7_trade_128 : decode cX7_trade 128 = .ok (.aload_n 0, 1) := by decide +kernel
theorem dX7_trade_129 : decode cX7_trade 129 = .ok (.getfield 19, 3) := by decide +kernel
theorem dX7_trade_132 : decode cX7_trade 132 = .ok (.getfield 235, 3) := by decide +kernel
theorem dX7_trade_135 : decode cX7_trade 135 = .ok (.invokestatic 193, 3) := by decide +kernel
theorem dX7_trade_138 : decode cX7_trade 138 = .ok (.i2l, 1) := by decide +kernel
theorem dX7_trade_139 : decode cX7_trade 139 = .ok (.invokevirtual 256, 3) := by decide +kernel
theorem dX7_trade_142 : decode cX7_trade 142 = .ok (.iload_n 1, 1) := by decide +kernel
theorem dX7_trade_143 : decode cX7_trade 143 = .ok (.ireturn, 1) := by decide +kernel
theorem dX7_undo_0 : decode cX7_undo 0 = .ok (.aload_n 0, 1) := by decide +kernel
theorem dX7_undo_1 : decode cX7_undo 1 = .ok (.getfield 39, 3) := by decide +kernel
theorem dX7_undo_4 : decode cX7_undo 4 = .ok (.aload_n 0, 1) := by decide +kernel
theorem dX7_undo_5 : decode cX7_undo 5 = .ok (.getfield 26, 3) := by decide +kernel
theorem dX7_undo_8 : decode cX7_undo 8 = .ok (.invokevirtual 228, 3) := by decide +kernel
theorem dX7_undo_11 : decode cX7_undo 11 = .ok (.ireturn, 1) := by decide +kernel
theorem dX7_vigil_0 : decode cX7_vigil 0 = .ok (.iload_n 1, 1) := by decide +kernel
theorem dX7_vigil_1 : decode cX7_vigil 1 = .ok (.ifCond .lt 9, 3) := by decide +kernel
theorem dX7_vigil_4 : decode cX7_vigil 4 = .ok (.iload_n 1, 1) := by decide +kernel
theorem dX7_vigil_5 : decode cX7_vigil 5 = .ok (.bipush 60, 2) := by decide +kernel
theorem dX7_vigil_7 : decode cX7_vigil 7 = .ok (.if_icmp .le 5, 3) := by decide +kernel
theorem dX7_vigil_10 : decode cX7_vigil 10 = .ok (.iconst (-1), 1) := by decide +kernel
theorem dX7_vigil_11 : decode cX7_vigil 11 = .ok (.ireturn, 1) := by decide +kernel
theorem dX7_vigil_12 : decode cX7_vigil 12 = .ok (.aload_n 0, 1) := by decide +kernel
theorem dX7_vigil_13 : decode cX7_vigil 13 = .ok (.getfield 33, 3) := by decide +kernel
theorem dX7_vigil_16 : decode cX7_vigil 16 = .ok (.aload_n 0, 1) := by decide +kernel
theorem dX7_vigil_17 : decode cX7_vigil 17 = .ok (.getfield 26, 3) := by decide +kernel
theorem dX7_vigil_20 : decode cX7_vigil 20 = .ok (.invokevirtual 170, 3) := by decide +kernel
theorem dX7_vigil_23 : decode cX7_vigil 23 = .ok (.iconst 0, 1) := by decide +kernel
theorem dX7_vigil_24 : decode cX7_vigil 24 = .ok (.istore_n 2, 1) := by decide +kernel
theorem dX7_vigil_25 : decode cX7_vigil 25 = .ok (.iconst (-1), 1) := by decide +kernel
theorem dX7_vigil_26 : decode cX7_vigil 26 = .ok (.istore_n 3, 1) := by decide +kernel
theorem dX7_vigil_27 : decode cX7_vigil 27 = .ok (.iconst 0, 1) := by decide +kernel
theorem dX7_vigil_28 : decode cX7_vigil 28 = .ok (.istore 4, 2) := by decide +kernel
theorem dX7_vigil_30 : decode cX7_vigil 30 = .ok (.iconst 0, 1) := by decide +kernel
theorem dX7_vigil_31 : decode cX7_vigil 31 = .ok (.istore 5, 2) := by decide +kernel
theorem dX7_vigil_33 : decode cX7_vigil 33 = .ok (.iload 5, 2) := by decide +kernel
theorem dX7_vigil_35 : decode cX7_vigil 35 = .ok (.iload_n 1, 1) := by decide +kernel
theorem dX7_vigil_36 : decode cX7_vigil 36 = .ok (.if_icmp .ge 57, 3) := by decide +kernel
theorem dX7_vigil_39 : decode cX7_vigil 39 = .ok (.aload_n 0, 1) := by decide +kernel
theorem dX7_vigil_40 : decode cX7_vigil 40 = .ok (.getfield 19, 3) := by decide +kernel
theorem dX7_vigil_43 : decode cX7_vigil 43 = .ok (.aload_n 0, 1) := by decide +kernel
theorem dX7_vigil_44 : decode cX7_vigil 44 = .ok (.getfield 33, 3) := by decide +kernel
theorem dX7_vigil_47 : decode cX7_vigil 47 = .ok (.invokevirtual 241, 3) := by decide +kernel
theorem dX7_vigil_50 : decode cX7_vigil 50 = .ok (.aload_n 0, 1) := by decide +kernel
theorem dX7_vigil_51 : decode cX7_vigil 51 = .ok (.getfield 19, 3) := by decide +kernel
theorem dX7_vigil_54 : decode cX7_vigil 54 = .ok (.getfield 235, 3) := by decide +kernel
theorem dX7_vigil_57 : decode cX7_vigil 57 = .ok (.ifCond .ne 10, 3) := by decide +kernel
theorem dX7_vigil_60 : decode cX7_vigil 60 = .ok (.iload 4, 2) := by decide +kernel
theorem dX7_vigil_62 : decode cX7_vigil 62 = .ok (.iconst 1, 1) := by decide +kernel
theorem dX7_vigil_63 : decode cX7_vigil 63 = .ok (.iadd, 1) := by decide +kernel
theorem dX7_vigil_64 : decode cX7_vigil 64 = .ok (.goto 4, 3) := by decide +kernel
theorem dX7_vigil_67 : decode cX7_vigil 67 = .ok (.iconst 0, 1) := by decide +kernel
theorem dX7_vigil_68 : decode cX7_vigil 68 = .ok (.istore 4, 2) := by decide +kernel
theorem dX7_vigil_70 : decode cX7_vigil 70 = .ok (.iload 4, 2) := by decide +kernel
theorem dX7_vigil_72 : decode cX7_vigil 72 = .ok (.iload_n 2, 1) := by decide +kernel
theorem dX7_vigil_73 : decode cX7_vigil 73 = .ok (.if_icmp .le 14, 3) := by decide +kernel
theorem dX7_vigil_76 : decode cX7_vigil 76 = .ok (.iload 4, 2) := by decide +kernel
theorem dX7_vigil_78 : decode cX7_vigil 78 = .ok (.istore_n 2, 1) := by decide +kernel
theorem dX7_vigil_79 : decode cX7_vigil 79 = .ok (.iload 5, 2) := by decide +kernel
theorem dX7_vigil_81 : decode cX7_vigil 81 = .ok (.iload 4, 2) := by decide +kernel
theorem dX7_vigil_83 : decode cX7_vigil 83 = .ok (.isub, 1) := by decide +kernel
theorem dX7_vigil_84 : decode cX7_vigil 84 = .ok (.iconst 1, 1) := by decide +kernel
theorem dX7_vigil_85 : decode cX7_vigil 85 = .ok (.iadd, 1) := by decide +kernel
theorem dX7_vigil_86 : decode cX7_vigil 86 = .ok (.istore_n 3, 1) := by decide +kernel
theorem dX7_vigil_87 : decode cX7_vigil 87 = .ok (.iinc 5 1, 3) := by decide +kernel
theorem dX7_vigil_90 : decode cX7_vigil 90 = .ok (.goto (-57), 3) := by decide +kernel
theorem dX7_vigil_93 : decode cX7_vigil 93 = .ok (.aload_n 0, 1) := by decide +kernel
theorem dX7_vigil_94 : decode cX7_vigil 94 = .ok (.getfield 61, 3) := by decide +kernel
theorem dX7_vigil_97 : decode cX7_vigil 97 = .ok (.iload_n 3, 1) := by decide +kernel
theorem dX7_vigil_98 : decode cX7_vigil 98 = .ok (.i2l, 1) := by decide +kernel
theorem dX7_vigil_99 : decode cX7_vigil 99 = .ok (.invokevirtual 247, 3) := by decide +kernel
theorem dX7_vigil_102 : decode cX7_vigil 102 = .ok (.iload_n 2, 1) := by decide +kernel
theorem dX7_vigil_103 : decode cX7_vigil 103 = .ok (.ireturn, 1) := by decide +kernel
theorem dX7_wellOnes_0 : decode cX7_wellOnes 0 = .ok (.iconst 1, 1) := by decide +kernel
theorem dX7_wellOnes_1 : decode cX7_wellOnes 1 = .ok (.aload_n 0, 1) := by decide +kernel
theorem dX7_wellOnes_2 : decode cX7_wellOnes 2 = .ok (.getfield 19, 3) := by decide +kernel
theorem dX7_wellOnes_5 : decode cX7_wellOnes 5 = .ok (.getfield 154, 3) := by decide +kernel
theorem dX7_wellOnes_8 : decode cX7_wellOnes 8 = .ok (.ishl, 1) := by decide +kernel
theorem dX7_wellOnes_9 : decode cX7_wellOnes 9 = .ok (.iconst 1, 1) := by decide +kernel
theorem dX7_wellOnes_10 : decode cX7_wellOnes 10 = .ok (.isub, 1) := by decide +kernel
theorem dX7_wellOnes_11 : decode cX7_wellOnes 11 = .ok (.aload_n 0, 1) := by decide +kernel
theorem dX7_wellOnes_12 : decode cX7_wellOnes 12 = .ok (.getfield 26, 3) := by decide +kernel
theorem dX7_wellOnes_15 : decode cX7_wellOnes 15 = .ok (.getfield 190, 3) := by decide +kernel
theorem dX7_wellOnes_18 : decode cX7_wellOnes 18 = .ok (.iconst (-1), 1) := by decide +kernel
theorem dX7_wellOnes_19 : decode cX7_wellOnes 19 = .ok (.ixor, 1) := by decide +kernel
theorem dX7_wellOnes_20 : decode cX7_wellOnes 20 = .ok (.iand, 1) := by decide +kernel
theorem dX7_wellOnes_21 : decode cX7_wellOnes 21 = .ok (.ireturn, 1) := by decide +kernel
theorem dX7_year_0 : decode cX7_year 0 = .ok (.aload_n 0, 1) := by decide +kernel
theorem dX7_year_1 : decode cX7_year 1 = .ok (.invokevirtual 212, 3) := by decide +kernel
theorem dX7_year_4 : decode cX7_year 4 = .ok (.istore_n 1, 1) := by decide +kernel
theorem dX7_year_5 : decode cX7_year 5 = .ok (.iload_n 1, 1) := by decide +kernel
theorem dX7_year_6 : decode cX7_year 6 = .ok (.iconst (-1), 1) := by decide +kernel
theorem dX7_year_7 : decode cX7_year 7 = .ok (.if_icmp .eq 14, 3) := by decide +kernel
theorem dX7_year_10 : decode cX7_year 10 = .ok (.aload_n 0, 1) := by decide +kernel
theorem dX7_year_11 : decode cX7_year 11 = .ok (.getfield 10, 3) := by decide +kernel
theorem dX7_year_14 : decode cX7_year 14 = .ok (.invokevirtual 94, 3) := by decide +kernel
theorem dX7_year_17 : decode cX7_year 17 = .ok (.iconst (-1), 1) := by decide +kernel
theorem dX7_year_18 : decode cX7_year 18 = .ok (.iload_n 1, 1) := by decide +kernel
theorem dX7_year_19 : decode cX7_year 19 = .ok (.isub, 1) := by decide +kernel
theorem dX7_year_20 : decode cX7_year 20 = .ok (.ireturn, 1) := by decide +kernel
theorem dX7_year_21 : decode cX7_year 21 = .ok (.aload_n 0, 1) := by decide +kernel
theorem dX7_year_22 : decode cX7_year 22 = .ok (.getfield 30, 3) := by decide +kernel
theorem dX7_year_25 : decode cX7_year 25 = .ok (.aload_n 0, 1) := by decide +kernel
theorem dX7_year_26 : decode cX7_year 26 = .ok (.getfield 26, 3) := by decide +kernel
theorem dX7_year_29 : decode cX7_year 29 = .ok (.invokevirtual 170, 3) := by decide +kernel
theorem dX7_year_32 : decode cX7_year 32 = .ok (.iconst 0, 1) := by decide +kernel
theorem dX7_year_33 : decode cX7_year 33 = .ok (.istore_n 2, 1) := by decide +kernel
theorem dX7_year_34 : decode cX7_year 34 = .ok (.iconst 0, 1) := by decide +kernel
theorem dX7_year_35 : decode cX7_year 35 = .ok (.istore_n 3, 1) := by decide +kernel
theorem dX7_year_36 : decode cX7_year 36 = .ok (.iconst 1, 1) := by decide +kernel
theorem dX7_year_37 : decode cX7_year 37 = .ok (.istore 4, 2) := by decide +kernel
theorem dX7_year_39 : decode cX7_year 39 = .ok (.iconst 0, 1) := by decide +kernel
theorem dX7_year_40 : decode cX7_year 40 = .ok (.istore 5, 2) := by decide +kernel
theorem dX7_year_42 : decode cX7_year 42 = .ok (.iload 5, 2) := by decide +kernel
theorem dX7_year_44 : decode cX7_year 44 = .ok (.bipush 60, 2) := by decide +kernel
theorem dX7_year_46 : decode cX7_year 46 = .ok (.if_icmp .ge 86, 3) := by decide +kernel
theorem dX7_year_49 : decode cX7_year 49 = .ok (.iload 4, 2) := by decide +kernel
theorem dX7_year_51 : decode cX7_year 51 = .ok (.ifCond .eq 81, 3) := by decide +kernel
theorem dX7_year_54 : decode cX7_year 54 = .ok (.iload_n 3, 1) := by decide +kernel
theorem dX7_year_55 : decode cX7_year 55 = .ok (.aload_n 0, 1) := by decide +kernel
theorem dX7_year_56 : decode cX7_year 56 = .ok (.getfield 10, 3) := by decide +kernel
theorem dX7_year_59 : decode cX7_year 59 = .ok (.getfield 215, 3) := by decide +kernel
theorem dX7_year_62 : decode cX7_year 62 = .ok (.if_icmp .ge 70, 3) := by decide +kernel
theorem dX7_year_65 : decode cX7_year 65 = .ok (.aload_n 0, 1) := by decide +kernel
theorem dX7_year_66 : decode cX7_year 66 = .ok (.aload_n 0, 1) := by decide +kernel
theorem dX7_year_67 : decode cX7_year 67 = .ok (.getfield 10, 3) := by decide +kernel
theorem dX7_year_70 : decode cX7_year 70 = .ok (.iload_n 3, 1) := by decide +kernel
theorem dX7_year_71 : decode cX7_year 71 = .ok (.invokevirtual 218, 3) := by decide +kernel
theorem dX7_year_74 : decode cX7_year 74 = .ok (.aload_n 0, 1) := by decide +kernel
theorem dX7_year_75 : decode cX7_year 75 = .ok (.getfield 10, 3) := by decide +kernel
theorem dX7_year_78 : decode cX7_year 78 = .ok (.iload_n 3, 1) := by decide +kernel
theorem dX7_year_79 : decode cX7_year 79 = .ok (.iconst 1, 1) := by decide +kernel
theorem dX7_year_80 : decode cX7_year 80 = .ok (.iadd, 1) := by decide +kernel
theorem dX7_year_81 : decode cX7_year 81 = .ok (.invokevirtual 218, 3) := by decide +kernel
theorem dX7_year_84 : decode cX7_year 84 = .ok (.aload_n 0, 1) := by decide +kernel
theorem dX7_year_85 : decode cX7_year 85 = .ok (.getfield 10, 3) := by decide +kernel
theorem dX7_year_88 : decode cX7_year 88 = .ok (.iload_n 3, 1) := by decide +kernel
theorem dX7_year_89 : decode cX7_year 89 = .ok (.iconst 2, 1) := by decide +kernel
theorem dX7_year_90 : decode cX7_year 90 = .ok (.iadd, 1) := by decide +kernel
theorem dX7_year_91 : decode cX7_year 91 = .ok (.invokevirtual 218, 3) := by decide +kernel
theorem dX7_year_94 : decode cX7_year 94 = .ok (.invokevirtual 221, 3) := by decide +kernel
theorem dX7_year_97 : decode cX7_year 97 = .ok (.istore 4, 2) := by decide +kernel
theorem dX7_year_99 : decode cX7_year 99 = .ok (.iload_n 3, 1) := by decide +kernel
theorem dX7_year_100 : decode cX7_year 100 = .ok (.aload_n 0, 1) := by decide +kernel
theorem dX7_year_101 : decode cX7_year 101 = .ok (.getfield 10, 3) := by decide +kernel
theorem dX7_year_104 : decode cX7_year 104 = .ok (.iload_n 3, 1) := by decide +kernel
theorem dX7_year_105 : decode cX7_year 105 = .ok (.invokevirtual 218, 3) := by decide +kernel
theorem dX7_year_108 : decode cX7_year 108 = .ok (.invokestatic 225, 3) := by decide +kernel
theorem dX7_year_111 : decode cX7_year 111 = .ok (.iadd, 1) := by decide +kernel
theorem dX7_year_112 : decode cX7_year 112 = .ok (.istore_n 3, 1) := by decide +kernel
theorem dX7_year_113 : decode cX7_year 113 = .ok (.iload_n 2, 1) := by decide +kernel
theorem dX7_year_114 : decode cX7_year 114 = .ok (.iload 4, 2) := by decide +kernel
theorem dX7_year_116 : decode cX7_year 116 = .ok (.ifCond .eq 7, 3) := by decide +kernel
theorem dX7_year_119 : decode cX7_year 119 = .ok (.iconst 1, 1) := by decide +kernel
theorem dX7_year_120 : decode cX7_year 120 = .ok (.goto 4, 3) := by decide +kernel
theorem dX7_year_123 : decode cX7_year 123 = .ok (.iconst 0, 1) := by decide +kernel
theorem dX7_year_124 : decode cX7_year 124 = .ok (.iadd, 1) := by decide +kernel
theorem dX7_year_125 : decode cX7_year 125 = .ok (.istore_n 2, 1) := by decide +kernel
theorem dX7_year_126 : decode cX7_year 126 = .ok (.iinc 5 1, 3) := by decide +kernel
theorem dX7_year_129 : decode cX7_year 129 = .ok (.goto (-87), 3) := by decide +kernel
theorem dX7_year_132 : decode cX7_year 132 = .ok (.iload_n 2, 1) := by decide +kernel
theorem dX7_year_133 : decode cX7_year 133 = .ok (.ifCond .le 14, 3) := by decide +kernel
theorem dX7_year_136 : decode cX7_year 136 = .ok (.aload_n 0, 1) := by decide +kernel
theorem dX7_year_137 : decode cX7_year 137 = .ok (.getfield 39, 3) := by decide +kernel
theorem dX7_year_140 : decode cX7_year 140 = .ok (.aload_n 0, 1) := by decide +kernel
theorem dX7_year_141 : decode cX7_year 141 = .ok (.getfield 30, 3) := by decide +kernel
theorem dX7_year_144 : decode cX7_year 144 = .ok (.invokevirtual 177, 3) := by decide +kernel
theorem dX7_year_147 : decode cX7_year 147 = .ok (.aload_n 0, 1) := by decide +kernel
theorem dX7_year_148 : decode cX7_year 148 = .ok (.getfield 10, 3) := by decide +kernel
theorem dX7_year_151 : decode cX7_year 151 = .ok (.invokevirtual 94, 3) := by decide +kernel
theorem dX7_year_154 : decode cX7_year 154 = .ok (.aload_n 0, 1) := by decide +kernel
theorem dX7_year_155 : decode cX7_year 155 = .ok (.getfield 61, 3) := by decide +kernel
theorem dX7_year_158 : decode cX7_year 158 = .ok (.iload 4, 2) := by decide +kernel
theorem dX7_year_160 : decode cX7_year 160 = .ok (.ifCond .eq 7, 3) := by decide +kernel
theorem dX7_year_163 : decode cX7_year 163 = .ok (.lconst 0, 1) := by decide +kernel
theorem dX7_year_164 : decode cX7_year 164 = .ok (.goto 4, 3) := by decide +kernel
theorem dX7_year_167 : decode cX7_year 167 = .ok (.lconst 1, 1) := by decide +kernel
theorem dX7_year_168 : decode cX7_year 168 = .ok (.aload_n 0, 1) := by decide +kernel
theorem dX7_year_169 : decode cX7_year 169 = .ok (.getfield 26, 3) := by decide +kernel
theorem dX7_year_172 : decode cX7_year 172 = .ok (.getfield 198, 3) := by decide +kernel
theorem dX7_year_175 : decode cX7_year 175 = .ok (.i2l, 1) := by decide +kernel
theorem dX7_year_176 : decode cX7_year 176 = .ok (.invokevirtual 208, 3) := by decide +kernel
theorem dX7_year_179 : decode cX7_year 179 = .ok (.iload_n 2, 1) := by decide +kernel
theorem dX7_year_180 : decode cX7_year 180 = .ok (.ireturn, 1) := by decide +kernel
theorem dX7_yearFault_0 : decode cX7_yearFault 0 = .ok (.aload_n 0, 1) := by decide +kernel
theorem dX7_yearFault_1 : decode cX7_yearFault 1 = .ok (.getfield 10, 3) := by decide +kernel
theorem dX7_yearFault_4 : decode cX7_yearFault 4 = .ok (.getfield 215, 3) := by decide +kernel
theorem dX7_yearFault_7 : decode cX7_yearFault 7 = .ok (.bipush 60, 2) := by decide +kernel
theorem dX7_yearFault_9 : decode cX7_yearFault 9 = .ok (.invokestatic 400, 3) := by decide +kernel
theorem dX7_yearFault_12 : decode cX7_yearFault 12 = .ok (.istore_n 1, 1) := by decide +kernel
theorem dX7_yearFault_13 : decode cX7_yearFault 13 = .ok (.iconst 0, 1) := by decide +kernel
theorem dX7_yearFault_14 : decode cX7_yearFault 14 = .ok (.istore_n 2, 1) := by decide +kernel
theorem dX7_yearFault_15 : decode cX7_yearFault 15 = .ok (.iconst 0, 1) := by decide +kernel
theorem dX7_yearFault_16 : decode cX7_yearFault 16 = .ok (.istore_n 3, 1) := by decide +kernel
theorem dX7_yearFault_17 : decode cX7_yearFault 17 = .ok (.iconst 0, 1) := by decide +kernel
theorem dX7_yearFault_18 : decode cX7_yearFault 18 = .ok (.istore 4, 2) := by decide +kernel
theorem dX7_yearFault_20 : decode cX7_yearFault 20 = .ok (.iload 4, 2) := by decide +kernel
theorem dX7_yearFault_22 : decode cX7_yearFault 22 = .ok (.iload_n 1, 1) := by decide +kernel
theorem dX7_yearFault_23 : decode cX7_yearFault 23 = .ok (.if_icmp .ge 86, 3) := by decide +kernel
theorem dX7_yearFault_26 : decode cX7_yearFault 26 = .ok (.aload_n 0, 1) := by decide +kernel
theorem dX7_yearFault_27 : decode cX7_yearFault 27 = .ok (.getfield 10, 3) := by decide +kernel
theorem dX7_yearFault_30 : decode cX7_yearFault 30 = .ok (.iload 4, 2) := by decide +kernel
theorem dX7_yearFault_32 : decode cX7_yearFault 32 = .ok (.invokevirtual 218, 3) := by decide +kernel
theorem dX7_yearFault_35 : decode cX7_yearFault 35 = .ok (.istore 5, 2) := by decide +kernel
theorem dX7_yearFault_37 : decode cX7_yearFault 37 = .ok (.iload_n 3, 1) := by decide +kernel
theorem dX7_yearFault_38 : decode cX7_yearFault 38 = .ok (.ifCond .ne 21, 3) := by decide +kernel
theorem dX7_yearFault_41 : decode cX7_yearFault 41 = .ok (.iload 5, 2) := by decide +kernel
theorem dX7_yearFault_43 : decode cX7_yearFault 43 = .ok (.istore_n 2, 1) := by decide +kernel
theorem dX7_yearFault_44 : decode cX7_yearFault 44 = .ok (.iload 5, 2) := by decide +kernel
theorem dX7_yearFault_46 : decode cX7_yearFault 46 = .ok (.invokestatic 225, 3) := by decide +kernel
theorem dX7_yearFault_49 : decode cX7_yearFault 49 = .ok (.iconst 1, 1) := by decide +kernel
theorem dX7_yearFault_50 : decode cX7_yearFault 50 = .ok (.isub, 1) := by decide +kernel
theorem dX7_yearFault_51 : decode cX7_yearFault 51 = .ok (.istore_n 3, 1) := by decide +kernel
theorem dX7_yearFault_52 : decode cX7_yearFault 52 = .ok (.iload_n 3, 1) := by decide +kernel
theorem dX7_yearFault_53 : decode cX7_yearFault 53 = .ok (.ifCond .ne 50, 3) := by decide +kernel
theorem dX7_yearFault_56 : decode cX7_yearFault 56 = .ok (.iload 4, 2) := by decide +kernel
theorem dX7_yearFault_58 : decode cX7_yearFault 58 = .ok (.ireturn, 1) := by decide +kernel
theorem dX7_yearFault_59 : decode cX7_yearFault 59 = .ok (.iload_n 2, 1) := by decide +kernel
theorem dX7_yearFault_60 : decode cX7_yearFault 60 = .ok (.bipush 103, 2) := by decide +kernel
theorem dX7_yearFault_62 : decode cX7_yearFault 62 = .ok (.if_icmp .ne 19, 3) := by decide +kernel
theorem dX7_yearFault_65 : decode cX7_yearFault 65 = .ok (.iload_n 3, 1) := by decide +kernel
theorem dX7_yearFault_66 : decode cX7_yearFault 66 = .ok (.iconst 1, 1) := by decide +kernel
theorem dX7_yearFault_67 : decode cX7_yearFault 67 = .ok (.if_icmp .ne 14, 3) := by decide +kernel
theorem dX7_yearFault_70 : decode cX7_yearFault 70 = .ok (.iload 5, 2) := by decide +kernel
theorem dX7_yearFault_72 : decode cX7_yearFault 72 = .ok (.bipush 45, 2) := by decide +kernel
theorem dX7_yearFault_74 : decode cX7_yearFault 74 = .ok (.if_icmp .ne 7, 3) := by decide +kernel
theorem dX7_yearFault_77 : decode cX7_yearFault 77 = .ok (.iconst 1, 1) := by decide +kernel
theorem dX7_yearFault_78 : decode cX7_yearFault 78 = .ok (.goto 4, 3) := by decide +kernel
theorem dX7_yearFault_81 : decode cX7_yearFault 81 = .ok (.iconst 0, 1) := by decide +kernel
theorem dX7_yearFault_82 : decode cX7_yearFault 82 = .ok (.istore 6, 2) := by decide +kernel
theorem dX7_yearFault_84 : decode cX7_yearFault 84 = .ok (.iload 5, 2) := by decide +kernel
theorem dX7_yearFault_86 : decode cX7_yearFault 86 = .ok (.invokestatic 414, 3) := by decide +kernel
theorem dX7_yearFault_89 : decode cX7_yearFault 89 = .ok (.ifCond .ne 11, 3) := by decide +kernel
theorem dX7_yearFault_92 : decode cX7_yearFault 92 = .ok (.iload 6, 2) := by decide +kernel
theorem dX7_yearFault_94 : decode cX7_yearFault 94 = .ok (.ifCond .ne 6, 3) := by decide +kernel
theorem dX7_yearFault_97 : decode cX7_yearFault 97 = .ok (.iload 4, 2) := by decide +kernel
theorem dX7_yearFault_99 : decode cX7_yearFault 99 = .ok (.ireturn, 1) := by decide +kernel
theorem dX7_yearFault_100 : decode cX7_yearFault 100 = .ok (.iinc 3 (-1), 3) := by decide +kernel
theorem dX7_yearFault_103 : decode cX7_yearFault 103 = .ok (.iinc 4 1, 3) := by decide +kernel
theorem dX7_yearFault_106 : decode cX7_yearFault 106 = .ok (.goto (-86), 3) := by decide +kernel
theorem dX7_yearFault_109 : decode cX7_yearFault 109 = .ok (.aload_n 0, 1) := by decide +kernel
theorem dX7_yearFault_110 : decode cX7_yearFault 110 = .ok (.getfield 10, 3) := by decide +kernel
theorem dX7_yearFault_113 : decode cX7_yearFault 113 = .ok (.getfield 215, 3) := by decide +kernel
theorem dX7_yearFault_116 : decode cX7_yearFault 116 = .ok (.bipush 60, 2) := by decide +kernel
theorem dX7_yearFault_118 : decode cX7_yearFault 118 = .ok (.if_icmp .gt 7, 3) := by decide +kernel
theorem dX7_yearFault_121 : decode cX7_yearFault 121 = .ok (.iload_n 3, 1) := by decide +kernel
theorem dX7_yearFault_122 : decode cX7_yearFault 122 = .ok (.ifCond .le 7, 3) := by decide +kernel
theorem dX7_yearFault_125 : decode cX7_yearFault 125 = .ok (.iload_n 1, 1) := by decide +kernel
theorem dX7_yearFault_126 : decode cX7_yearFault 126 = .ok (.goto 4, 3) := by decide +kernel
theorem dX7_yearFault_129 : decode cX7_yearFault 129 = .ok (.iconst (-1), 1) := by decide +kernel
theorem dX7_yearFault_130 : decode cX7_yearFault 130 = .ok (.ireturn, 1) := by decide +kernel
theorem dX7_years_0 : decode cX7_years 0 = .ok (.iload_n 2, 1) := by decide +kernel
theorem dX7_years_1 : decode cX7_years 1 = .ok (.iconst 1, 1) := by decide +kernel
theorem dX7_years_2 : decode cX7_years 2 = .ok (.if_icmp .lt 9, 3) := by decide +kernel
theorem dX7_years_5 : decode cX7_years 5 = .ok (.iload_n 2, 1) := by decide +kernel
theorem dX7_years_6 : decode cX7_years 6 = .ok (.bipush 60, 2) := by decide +kernel
theorem dX7_years_8 : decode cX7_years 8 = .ok (.if_icmp .le 5, 3) := by decide +kernel
theorem dX7_years_11 : decode cX7_years 11 = .ok (.iconst (-1), 1) := by decide +kernel
theorem dX7_years_12 : decode cX7_years 12 = .ok (.ireturn, 1) := by decide +kernel
theorem dX7_years_13 : decode cX7_years 13 = .ok (.aload_n 0, 1) := by decide +kernel
theorem dX7_years_14 : decode cX7_years 14 = .ok (.getfield 33, 3) := by decide +kernel
theorem dX7_years_17 : decode cX7_years 17 = .ok (.aload_n 0, 1) := by decide +kernel
theorem dX7_years_18 : decode cX7_years 18 = .ok (.getfield 26, 3) := by decide +kernel
theorem dX7_years_21 : decode cX7_years 21 = .ok (.invokevirtual 170, 3) := by decide +kernel
theorem dX7_years_24 : decode cX7_years 24 = .ok (.aload_n 0, 1) := by decide +kernel
theorem dX7_years_25 : decode cX7_years 25 = .ok (.iload_n 1, 1) := by decide +kernel
theorem dX7_years_26 : decode cX7_years 26 = .ok (.putfield 385, 3) := by decide +kernel
theorem dX7_years_29 : decode cX7_years 29 = .ok (.iconst 0, 1) := by decide +kernel
theorem dX7_years_30 : decode cX7_years 30 = .ok (.istore_n 3, 1) := by decide +kernel
theorem dX7_years_31 : decode cX7_years 31 = .ok (.iload_n 3, 1) := by decide +kernel
theorem dX7_years_32 : decode cX7_years 32 = .ok (.iload_n 2, 1) := by decide +kernel
theorem dX7_years_33 : decode cX7_years 33 = .ok (.if_icmp .ge 13, 3) := by decide +kernel
theorem dX7_years_36 : decode cX7_years 36 = .ok (.aload_n 0, 1) := by decide +kernel
theorem dX7_years_37 : decode cX7_years 37 = .ok (.invokevirtual 388, 3) := by decide +kernel
theorem dX7_years_40 : decode cX7_years 40 = .ok (.iinc 3 1, 3) := by decide +kernel
theorem dX7_years_43 : decode cX7_years 43 = .ok (.goto (-12), 3) := by decide +kernel
theorem dX7_years_46 : decode cX7_years 46 = .ok (.aload_n 0, 1) := by decide +kernel
theorem dX7_years_47 : decode cX7_years 47 = .ok (.getfield 61, 3) := by decide +kernel
theorem dX7_years_50 : decode cX7_years 50 = .ok (.aload_n 0, 1) := by decide +kernel
theorem dX7_years_51 : decode cX7_years 51 = .ok (.getfield 33, 3) := by decide +kernel
theorem dX7_years_54 : decode cX7_years 54 = .ok (.getfield 201, 3) := by decide +kernel
theorem dX7_years_57 : decode cX7_years 57 = .ok (.aload_n 0, 1) := by decide +kernel
theorem dX7_years_58 : decode cX7_years 58 = .ok (.getfield 26, 3) := by decide +kernel
theorem dX7_years_61 : decode cX7_years 61 = .ok (.getfield 201, 3) := by decide +kernel
theorem dX7_years_64 : decode cX7_years 64 = .ok (.isub, 1) := by decide +kernel
theorem dX7_years_65 : decode cX7_years 65 = .ok (.i2l, 1) := by decide +kernel
theorem dX7_years_66 : decode cX7_years 66 = .ok (.aload_n 0, 1) := by decide +kernel
theorem dX7_years_67 : decode cX7_years 67 = .ok (.getfield 33, 3) := by decide +kernel
theorem dX7_years_70 : decode cX7_years 70 = .ok (.invokevirtual 164, 3) := by decide +kernel
theorem dX7_years_73 : decode cX7_years 73 = .ok (.i2l, 1) := by decide +kernel
theorem dX7_years_74 : decode cX7_years 74 = .ok (.invokevirtual 208, 3) := by decide +kernel
theorem dX7_years_77 : decode cX7_years 77 = .ok (.aload_n 0, 1) := by decide +kernel
theorem dX7_years_78 : decode cX7_years 78 = .ok (.getfield 33, 3) := by decide +kernel
theorem dX7_years_81 : decode cX7_years 81 = .ok (.getfield 198, 3) := by decide +kernel
theorem dX7_years_84 : decode cX7_years 84 = .ok (.aload_n 0, 1) := by decide +kernel
theorem dX7_years_85 : decode cX7_years 85 = .ok (.getfield 26, 3) := by decide +kernel
theorem dX7_years_88 : decode cX7_years 88 = .ok (.getfield 198, 3) := by decide +kernel
theorem dX7_years_91 : decode cX7_years 91 = .ok (.isub, 1) := by decide +kernel
theorem dX7_years_92 : decode cX7_years 92 = .ok (.ireturn, 1) := by decide +kernel
theorem dX8_able_0 : decode cX8_able 0 = .ok (.aload_n 0, 1) := by decide +kernel
theorem dX8_able_1 : decode cX8_able 1 = .ok (.iconst 0, 1) := by decide +kernel
theorem dX8_able_2 : decode cX8_able 2 = .ok (.putfield 114, 3) := by decide +kernel
theorem dX8_able_5 : decode cX8_able 5 = .ok (.iload_n 1, 1) := by decide +kernel
theorem dX8_able_6 : decode cX8_able 6 = .ok (.invokestatic 242, 3) := by decide +kernel
theorem dX8_able_9 : decode cX8_able 9 = .ok (.ifCond .ne 5, 3) := by decide +kernel
theorem dX8_able_12 : decode cX8_able 12 = .ok (.iconst (-1), 1) := by decide +kernel
theorem dX8_able_13 : decode cX8_able 13 = .ok (.ireturn, 1) := by decide +kernel
theorem dX8_able_14 : decode cX8_able 14 = .ok (.iconst 0, 1) := by decide +kernel
theorem dX8_able_15 : decode cX8_able 15 = .ok (.istore_n 2, 1) := by decide +kernel
theorem dX8_able_16 : decode cX8_able 16 = .ok (.aload_n 0, 1) := by decide +kernel
theorem dX8_able_17 : decode cX8_able 17 = .ok (.iconst 0, 1) := by decide +kernel
theorem dX8_able_18 : decode cX8_able 18 = .ok (.putfield 117, 3) := by decide +kernel
theorem dX8_able_21 : decode cX8_able 21 = .ok (.iconst 0, 1) := by decide +kernel
theorem dX8_able_22 : decode cX8_able 22 = .ok (.istore_n 3, 1) := by decide +kernel
theorem dX8_able_23 : decode cX8_able 23 = .ok (.iload_n 3, 1) := by decide +kernel
theorem dX8_able_24 : decode cX8_able 24 = .ok (.aload_n 0, 1) := by decide +kernel
theorem dX8_able_25 : decode cX8_able 25 = .ok (.getfield 120, 3) := by decide +kernel
theorem dX8_able_28 : decode cX8_able 28 = .ok (.if_icmp .ge 128, 3) := by decide +kernel
theorem dX8_able_31 : decode cX8_able 31 = .ok (.iconst (-1), 1) := by decide +kernel
theorem dX8_able_32 : decode cX8_able 32 = .ok (.istore 4, 2) := by decide +kernel
theorem dX8_able_34 : decode cX8_able 34 = .ok (.iconst 0, 1) := by decide +kernel
theorem dX8_able_35 : decode cX8_able 35 = .ok (.istore 5, 2) := by decide +kernel
theorem dX8_able_37 : decode cX8_able 37 = .ok (.iload 5, 2) := by decide +kernel
theorem dX8_able_39 : decode cX8_able 39 = .ok (.aload_n 0, 1) := by decide +kernel
theorem dX8_able_40 : decode cX8_able 40 = .ok (.getfield 120, 3) := by decide +kernel
theorem dX8_able_43 : decode cX8_able 43 = .ok (.if_icmp .ge 84, 3) := by decide +kernel
theorem dX8_able_46 : decode cX8_able 46 = .ok (.iload_n 2, 1) := by decide +kernel
theorem dX8_able_47 : decode cX8_able 47 = .ok (.iload 5, 2) := by decide +kernel
theorem dX8_able_49 : decode cX8_able 49 = .ok (.invokestatic 271, 3) := by decide +kernel
theorem dX8_able_52 : decode cX8_able 52 = .ok (.ifCond .ne 69, 3) := by decide +kernel
theorem dX8_able_55 : decode cX8_able 55 = .ok (.aload_n 0, 1) := by decide +kernel
theorem dX8_able_56 : decode cX8_able 56 = .ok (.getfield 9, 3) := by decide +kernel
theorem dX8_able_59 : decode cX8_able 59 = .ok (.bipush 16, 2) := by decide +kernel
theorem dX8_able_61 : decode cX8_able 61 = .ok (.iload 5, 2) := by decide +kernel
theorem dX8_able_63 : decode cX8_able 63 = .ok (.iadd, 1) := by decide +kernel
theorem dX8_able_64 : decode cX8_able 64 = .ok (.iaload, 1) := by decide +kernel
theorem dX8_able_65 : decode cX8_able 65 = .ok (.iconst 1, 1) := by decide +kernel
theorem dX8_able_66 : decode cX8_able 66 = .ok (.if_icmp .eq 55, 3) := by decide +kernel
theorem dX8_able_69 : decode cX8_able 69 = .ok (.aload_n 0, 1) := by decide +kernel
theorem dX8_able_70 : decode cX8_able 70 = .ok (.getfield 26, 3) := by decide +kernel
theorem dX8_able_73 : decode cX8_able 73 = .ok (.iload 5, 2) := by decide +kernel
theorem dX8_able_75 : decode cX8_able 75 = .ok (.iaload, 1) := by decide +kernel
theorem dX8_able_76 : decode cX8_able 76 = .ok (.iload_n 1, 1) := by decide +kernel
theorem dX8_able_77 : decode cX8_able 77 = .ok (.invokestatic 271, 3) := by decide +kernel
theorem dX8_able_80 : decode cX8_able 80 = .ok (.ifCond .ne 6, 3) := by decide +kernel
theorem dX8_able_83 : decode cX8_able 83 = .ok (.goto 38, 3) := by decide +kernel
theorem dX8_able_86 : decode cX8_able 86 = .ok (.iload 4, 2) := by decide +kernel
theorem dX8_able_88 : decode cX8_able 88 = .ok (.iconst (-1), 1) := by decide +kernel
theorem dX8_able_89 : decode cX8_able 89 = .ok (.if_icmp .eq 28, 3) := by decide +kernel
theorem dX8_able_92 : decode cX8_able 92 = .ok (.aload_n 0, 1) := by decide +kernel
theorem dX8_able_93 : decode cX8_able 93 = .ok (.aload_n 0, 1) := by decide +kernel
theorem dX8_able_94 : decode cX8_able 94 = .ok (.getfield 9, 3) := by decide +kernel
theorem dX8_able_97 : decode cX8_able 97 = .ok (.iload 5, 2) := by decide +kernel
theorem dX8_able_99 : decode cX8_able 99 = .ok (.iload_n 1, 1) := by decide +kernel
theorem dX8_able_100 : decode cX8_able 100 = .ok (.invokevirtual 245, 3) := by decide +kernel
theorem dX8_able_103 : decode cX8_able 103 = .ok (.aload_n 0, 1) := by decide +kernel
theorem dX8_able_104 : decode cX8_able 104 = .ok (.aload_n 0, 1) := by decide +kernel
theorem dX8_able_105 : decode cX8_able 105 = .ok (.getfield 9, 3) := by decide +kernel
theorem dX8_able_108 : decode cX8_able 108 = .ok (.iload 4, 2) := by decide +kernel
theorem dX8_able_110 : decode cX8_able 110 = .ok (.iload_n 1, 1) := by decide +kernel
theorem dX8_able_111 : decode cX8_able 111 = .ok (.invokevirtual 245, 3) := by decide +kernel
theorem dX8_able_114 : decode cX8_able 114 = .ok (.if_icmp .ge 7, 3) := by decide +kernel
theorem dX8_able_117 : decode cX8_able 117 = .ok (.iload 5, 2) := by decide +kernel
theorem dX8_able_119 : decode cX8_able 119 = .ok (.istore 4, 2) := by decide +kernel
theorem dX8_able_121 : decode cX8_able 121 = .ok (.iinc 5 1, 3) := by decide +kernel
theorem dX8_able_124 : decode cX8_able 124 = .ok (.goto (-87), 3) := by decide +kernel
theorem dX8_able_127 : decode cX8_able 127 = .ok (.iload 4, 2) := by decide +kernel
theorem dX8_able_129 : decode cX8_able 129 = .ok (.iconst (-1), 1) := by decide +kernel
theorem dX8_able_130 : decode cX8_able 130 = .ok (.if_icmp .ne 6, 3) := by decide +kernel
theorem dX8_able_133 : decode cX8_able 133 = .ok (.goto 17, 3) := by decide +kernel
theorem dX8_able_136 : decode cX8_able 136 = .ok (.aload_n 0, 1) := by decide +kernel
theorem dX8_able_137 : decode cX8_able 137 = .ok (.iload 4, 2) := by decide +kernel
theorem dX8_able_139 : decode cX8_able 139 = .ok (.i2l, 1) := by decide +kernel
theorem dX8_able_140 : decode cX8_able 140 = .ok (.invokevirtual 284, 3) := by decide +kernel
theorem dX8_able_143 : decode cX8_able 143 = .ok (.iload_n 2, 1) := by decide +kernel
theorem dX8_able_144 : decode cX8_able 144 = .ok (.iconst 1, 1) := by decide +kernel
theorem dX8_able_145 : decode cX8_able 145 = .ok (.iload 4, 2) := by decide +kernel
theorem dX8_able_147 : decode cX8_able 147 = .ok (.ishl, 1) := by decide +kernel
theorem dX8_able_148 : decode cX8_able 148 = .ok (.ior, 1) := by decide +kernel
theorem dX8_able_149 : decode cX8_able 149 = .ok (.istore_n 2, 1) := by decide +kernel
theorem dX8_able_150 : decode cX8_able 150 = .ok (.iinc 3 1, 3) := by decide +kernel
theorem dX8_able_153 : decode cX8_able 153 = .ok (.goto (-130), 3) := by decide +kernel
theorem dX8_able_156 : decode cX8_able 156 = .ok (.aload_n 0, 1) := by decide +kernel
theorem dX8_able_157 : decode cX8_able 157 = .ok (.getfield 117, 3) := by decide +kernel
theorem dX8_able_160 : decode cX8_able 160 = .ok (.ireturn, 1) := by decide +kernel
theorem dX8_ableMany_0 : decode cX8_ableMany 0 = .ok (.iconst 0, 1) := by decide +kernel
theorem dX8_ableMany_1 : decode cX8_ableMany 1 = .ok (.istore_n 2, 1) := by decide +kernel
theorem dX8_ableMany_2 : decode cX8_ableMany 2 = .ok (.iconst 0, 1) := by decide +kernel
theorem dX8_ableMany_3 : decode cX8_ableMany 3 = .ok (.istore_n 3, 1) := by decide +kernel
theorem dX8_ableMany_4 : decode cX8_ableMany 4 = .ok (.iload_n 3, 1) := by decide +kernel
theorem dX8_ableMany_5 : decode cX8_ableMany 5 = .ok (.aload_n 0, 1) := by decide +kernel
theorem dX8_ableMany_6 : decode cX8_ableMany 6 = .ok (.getfield 120, 3) := by decide +kernel
theorem dX8_ableMany_9 : decode cX8_ableMany 9 = .ok (.if_icmp .ge 42, 3) := by decide +kernel
theorem dX8_ableMany_12 : decode cX8_ableMany 12 = .ok (.iload_n 2, 1) := by decide +kernel
theorem dX8_ableMany_13 : decode cX8_ableMany 13 = .ok (.aload_n 0, 1) := by decide +kernel
theorem dX8_ableMany_14 : decode cX8_ableMany 14 = .ok (.getfield 9, 3) := by decide +kernel
theorem dX8_ableMany_17 : decode cX8_ableMany 17 = .ok (.bipush 16, 2) := by decide +kernel
theorem dX8_ableMany_19 : decode cX8_ableMany 19 = .ok (.iload_n 3, 1) := by decide +kernel
theorem dX8_ableMany_20 : decode cX8_ableMany 20 = .ok (.iadd, 1) := by decide +kernel
theorem dX8_ableMany_21 : decode cX8_ableMany 21 = .ok (.iaload, 1) := by decide +kernel
theorem dX8_ableMany_22 : decode cX8_ableMany 22 = .ok (.ifCond .ne 20, 3) := by decide +kernel
theorem dX8_ableMany_25 : decode cX8_ableMany 25 = .ok (.aload_n 0, 1) := by decide +kernel
theorem dX8_ableMany_26 : decode cX8_ableMany 26 = .ok (.getfield 26, 3) := by decide +kernel
theorem dX8_ableMany_29 : decode cX8_ableMany 29 = .ok (.iload_n 3, 1) := by decide +kernel
theorem dX8_ableMany_30 : decode cX8_ableMany 30 = .ok (.iaload, 1) := by decide +kernel
theorem dX8_ableMany_31 : decode cX8_ableMany 31 = .ok (.iload_n 1, 1) := by decide +kernel
theorem dX8_ableMany_32 : decode cX8_ableMany 32 = .ok (.invokestatic 271, 3) := by decide +kernel
theorem dX8_ableMany_35 : decode cX8_ableMany 35 = .ok (.ifCond .eq 7, 3) := by decide +kernel
theorem dX8_ableMany_38 : decode cX8_ableMany 38 = .ok (.iconst 1, 1) := by decide +kernel
theorem dX8_ableMany_39 : decode cX8_ableMany 39 = .ok (.goto 4, 3) := by decide +kernel
theorem dX8_ableMany_42 : decode cX8_ableMany 42 = .ok (.iconst 0, 1) := by decide +kernel
theorem dX8_ableMany_43 : decode cX8_ableMany 43 = .ok (.iadd, 1) := by decide +kernel
theorem dX8_ableMany_44 : decode cX8_ableMany 44 = .ok (.istore_n 2, 1) := by decide +kernel
theorem dX8_ableMany_45 : decode cX8_ableMany 45 = .ok (.iinc 3 1, 3) := by decide +kernel
theorem dX8_ableMany_48 : decode cX8_ableMany 48 = .ok (.goto (-44), 3) := by decide +kernel
theorem dX8_ableMany_51 : decode cX8_ableMany 51 = .ok (.iload_n 2, 1) := by decide +kernel
theorem dX8_ableMany_52 : decode cX8_ableMany 52 = .ok (.ireturn, 1) := by decide +kernel
theorem dX8_act_0 : decode cX8_act 0 = .ok (.iload_n 1, 1) := by decide +kernel
theorem dX8_act_1 : decode cX8_act 1 = .ok (.lookupswitch 98 #[(103, 78), (105, 46), (110, 35)], 35) := by decide +kernel
theorem dX8_act_36 : decode cX8_act 36 = .ok (.aload_n 0, 1) := by decide +kernel
theorem dX8_act_37 : decode cX8_act 37 = .ok (.aload_n 0, 1) := by decide +kernel
theorem dX8_act_38 : decode cX8_act 38 = .ok (.getfield 9, 3) := by decide +kernel
theorem dX8_act_41 : decode cX8_act 41 = .ok (.iload_n 2, 1) := by decide +kernel
theorem dX8_act_42 : decode cX8_act 42 = .ok (.invokevirtual 280, 3) := by decide +kernel
theorem dX8_act_45 : decode cX8_act 45 = .ok (.iconst 1, 1) := by decide +kernel
theorem dX8_act_46 : decode cX8_act 46 = .ok (.ireturn, 1) := by decide +kernel
theorem dX8_act_47 : decode cX8_act 47 = .ok (.aload_n 0, 1) := by decide +kernel
theorem dX8_act_48 : decode cX8_act 48 = .ok (.iload_n 2, 1) := by decide +kernel
theorem dX8_act_49 : decode cX8_act 49 = .ok (.invokevirtual 127, 3) := by decide +kernel
theorem dX8_act_52 : decode cX8_act 52 = .ok (.ifCond .ne 5, 3) := by decide +kernel
theorem dX8_act_55 : decode cX8_act 55 = .ok (.iconst 0, 1) := by decide +kernel
theorem dX8_act_56 : decode cX8_act 56 = .ok (.ireturn, 1) := by decide +kernel
theorem dX8_act_57 : decode cX8_act 57 = .ok (.aload_n 0, 1) := by decide +kernel
theorem dX8_act_58 : decode cX8_act 58 = .ok (.getfield 9, 3) := by decide +kernel
theorem dX8_act_61 : decode cX8_act 61 = .ok (.bipush 16, 2) := by decide +kernel
theorem dX8_act_63 : decode cX8_act 63 = .ok (.iload_n 2, 1) := by decide +kernel
theorem dX8_act_64 : decode cX8_act 64 = .ok (.iadd, 1) := by decide +kernel
theorem dX8_act_65 : decode cX8_act 65 = .ok (.iconst 1, 1) := by decide +kernel
theorem dX8_act_66 : decode cX8_act 66 = .ok (.aload_n 0, 1) := by decide +kernel
theorem dX8_act_67 : decode cX8_act 67 = .ok (.getfield 9, 3) := by decide +kernel
theorem dX8_act_70 : decode cX8_act 70 = .ok (.bipush 16, 2) := by decide +kernel
theorem dX8_act_72 : decode cX8_act 72 = .ok (.iload_n 2, 1) := by decide +kernel
theorem dX8_act_73 : decode cX8_act 73 = .ok (.iadd, 1) := by decide +kernel
theorem dX8_act_74 : decode cX8_act 74 = .ok (.iaload, 1) := by decide +kernel
theorem dX8_act_75 : decode cX8_act 75 = .ok (.isub, 1) := by decide +kernel
theorem dX8_act_76 : decode cX8_act 76 = .ok (.iastore, 1) := by decide +kernel
theorem dX8_act_77 : decode cX8_act 77 = .ok (.iconst 1, 1) := by decide +kernel
theorem dX8_act_78 : decode cX8_act 78 = .ok (.ireturn, 1) := by decide +kernel
theorem dX8_act_79 : decode cX8_act 79 = .ok (.aload_n 0, 1) := by decide +kernel
theorem dX8_act_80 : decode cX8_act 80 = .ok (.iload_n 2, 1) := by decide +kernel
theorem dX8_act_81 : decode cX8_act 81 = .ok (.iload_n 3, 1) := by decide +kernel
theorem dX8_act_82 : decode cX8_act 82 = .ok (.invokevirtual 257, 3) := by decide +kernel
theorem dX8_act_85 : decode cX8_act 85 = .ok (.ifCond .ne 5, 3) := by decide +kernel
theorem dX8_act_88 : decode cX8_act 88 = .ok (.iconst 0, 1) := by decide +kernel
theorem dX8_act_89 : decode cX8_act 89 = .ok (.ireturn, 1) := by decide +kernel
theorem dX8_act_90 : decode cX8_act 90 = .ok (.aload_n 0, 1) := by decide +kernel
theorem dX8_act_91 : decode cX8_act 91 = .ok (.getfield 9, 3) := by decide +kernel
theorem dX8_act_94 : decode cX8_act 94 = .ok (.iload_n 2, 1) := by decide +kernel
theorem dX8_act_95 : decode cX8_act 95 = .ok (.iload_n 3, 1) := by decide +kernel
theorem dX8_act_96 : decode cX8_act 96 = .ok (.iastore, 1) := by decide +kernel
theorem dX8_act_97 : decode cX8_act 97 = .ok (.iconst 1, 1) := by decide +kernel
theorem dX8_act_98 : decode cX8_act 98 = .ok (.ireturn, 1) := by decide +kernel
theorem dX8_act_99 : decode cX8_act 99 = .ok (.aload_n 0, 1) := by decide +kernel
theorem dX8_act_100 : decode cX8_act 100 = .ok (.iload_n 2, 1) := by decide +kernel
theorem dX8_act_101 : decode cX8_act 101 = .ok (.iload_n 3, 1) := by decide +kernel
theorem dX8_act_102 : decode cX8_act 102 = .ok (.invokevirtual 297, 3) := by decide +kernel
theorem dX8_act_105 : decode cX8_act 105 = .ok (.ifCond .ne 5, 3) := by decide +kernel
theorem dX8_act_108 : decode cX8_act 108 = .ok (.iconst 0, 1) := by decide +kernel
theorem dX8_act_109 : decode cX8_act 109 = .ok (.ireturn, 1) := by decide +kernel
theorem dX8_act_110 : decode cX8_act 110 = .ok (.aload_n 0, 1) := by decide +kernel
theorem dX8_act_111 : decode cX8_act 111 = .ok (.iload_n 2, 1) := by decide +kernel
theorem dX8_act_112 : decode cX8_act 112 = .ok (.iload_n 3, 1) := by decide +kernel
theorem dX8_act_113 : decode cX8_act 113 = .ok (.invokevirtual 300, 3) := by decide +kernel
theorem dX8_act_116 : decode cX8_act 116 = .ok (.iconst 1, 1) := by decide +kernel
theorem dX8_act_117 : decode cX8_act 117 = .ok (.ireturn, 1) := by decide +kernel
theorem dX8_again_0 : decode cX8_again 0 = .ok (.aload_n 0, 1) := by decide +kernel
theorem dX8_again_1 : decode cX8_again 1 = .ok (.iconst 0, 1) := by decide +kernel
theorem dX8_again_2 : decode cX8_again 2 = .ok (.putfield 114, 3) := by decide +kernel
theorem dX8_again_5 : decode cX8_again 5 = .ok (.iload_n 1, 1) := by decide +kernel
theorem dX8_again_6 : decode cX8_again 6 = .ok (.iconst 0, 1) := by decide +kernel
theorem dX8_again_7 : decode cX8_again 7 = .ok (.iconst 1, 1) := by decide +kernel
theorem dX8_again_8 : decode cX8_again 8 = .ok (.invokestatic 123, 3) := by decide +kernel
theorem dX8_again_11 : decode cX8_again 11 = .ok (.ifCond .eq 25, 3) := by decide +kernel
theorem dX8_again_14 : decode cX8_again 14 = .ok (.aload_n 0, 1) := by decide +kernel
theorem dX8_again_15 : decode cX8_again 15 = .ok (.getfield 108, 3) := by decide +kernel
theorem dX8_again_18 : decode cX8_again 18 = .ok (.iload_n 1, 1) := by decide +kernel
theorem dX8_again_19 : decode cX8_again 19 = .ok (.baload, 1) := by decide +kernel
theorem dX8_again_20 : decode cX8_again 20 = .ok (.ifCond .eq 16, 3) := by decide +kernel
theorem dX8_again_23 : decode cX8_again 23 = .ok (.aload_n 0, 1) := by decide +kernel
theorem dX8_again_24 : decode cX8_again 24 = .ok (.getfield 111, 3) := by decide +kernel
theorem dX8_again_27 : decode cX8_again 27 = .ok (.iload_n 1, 1) := by decide +kernel
theorem dX8_again_28 : decode cX8_again 28 = .ok (.iaload, 1) := by decide +kernel
theorem dX8_again_29 : decode cX8_again 29 = .ok (.aload_n 0, 1) := by decide +kernel
theorem dX8_again_30 : decode cX8_again 30 = .ok (.getfield 185, 3) := by decide +kernel
theorem dX8_again_33 : decode cX8_again 33 = .ok (.if_icmp .eq 5, 3) := by decide +kernel
theorem dX8_again_36 : decode cX8_again 36 = .ok (.iconst 0, 1) := by decide +kernel
theorem dX8_again_37 : decode cX8_again 37 = .ok (.ireturn, 1) := by decide +kernel
theorem dX8_again_38 : decode cX8_again 38 = .ok (.iconst 0, 1) := by decide +kernel
theorem dX8_again_39 : decode cX8_again 39 = .ok (.istore_n 2, 1) := by decide +kernel
theorem dX8_again_40 : decode cX8_again 40 = .ok (.iload_n 2, 1) := by decide +kernel
theorem dX8_again_41 : decode cX8_again 41 = .ok (.bipush 27, 2) := by decide +kernel
theorem dX8_again_43 : decode cX8_again 43 = .ok (.if_icmp .ge 26, 3) := by decide +kernel
theorem dX8_again_46 : decode cX8_again 46 = .ok (.aload_n 0, 1) := by decide +kernel
theorem dX8_again_47 : decode cX8_again 47 = .ok (.getfield 9, 3) := by decide +kernel
theorem dX8_again_50 : decode cX8_again 50 = .ok (.iload_n 2, 1) := by decide +kernel
theorem dX8_again_51 : decode cX8_again 51 = .ok (.aload_n 0, 1) := by decide +kernel
theorem dX8_again_52 : decode cX8_again 52 = .ok (.getfield 105, 3) := by decide +kernel
theorem dX8_again_55 : decode cX8_again 55 = .ok (.bipush 27, 2) := by decide +kernel
theorem dX8_again_57 : decode cX8_again 57 = .ok (.iload_n 1, 1) := by decide +kernel
theorem dX8_again_58 : decode cX8_again 58 = .ok (.imul, 1) := by decide +kernel
theorem dX8_again_59 : decode cX8_again 59 = .ok (.iload_n 2, 1) := by decide +kernel
theorem dX8_again_60 : decode cX8_again 60 = .ok (.iadd, 1) := by decide +kernel
theorem dX8_again_61 : decode cX8_again 61 = .ok (.iaload, 1) := by decide +kernel
theorem dX8_again_62 : decode cX8_again 62 = .ok (.iastore, 1) := by decide +kernel
theorem dX8_again_63 : decode cX8_again 63 = .ok (.iinc 2 1, 3) := by decide +kernel
theorem dX8_again_66 : decode cX8_again 66 = .ok (.goto (-26), 3) := by decide +kernel
theorem dX8_again_69 : decode cX8_again 69 = .ok (.aload_n 0, 1) := by decide +kernel
theorem dX8_again_70 : decode cX8_again 70 = .ok (.iconst 0, 1) := by decide +kernel
theorem dX8_again_71 : decode cX8_again 71 = .ok (.putfield 182, 3) := by decide +kernel
theorem dX8_again_74 : decode cX8_again 74 = .ok (.iconst 1, 1) := by decide +kernel
theorem dX8_again_75 : decode cX8_again 75 = .ok (.ireturn, 1) := by decide +kernel
theorem dX8_areRight_0 : decode cX8_areRight 0 = .ok (.aload_n 0, 1) := by decide +kernel
theorem dX8_areRight_1 : decode cX8_areRight 1 = .ok (.getfield 70, 3) := by decide +kernel
theorem dX8_areRight_4 : decode cX8_areRight 4 = .ok (.iload_n 1, 1) := by decide +kernel
theorem dX8_areRight_5 : decode cX8_areRight 5 = .ok (.iaload, 1) := by decide +kernel
theorem dX8_areRight_6 : decode cX8_areRight 6 = .ok (.aload_n 0, 1) := by decide +kernel
theorem dX8_areRight_7 : decode cX8_areRight 7 = .ok (.getfield 67, 3) := by decide +kernel
theorem dX8_areRight_10 : decode cX8_areRight 10 = .ok (.iload_n 1, 1) := by decide +kernel
theorem dX8_areRight_11 : decode cX8_areRight 11 = .ok (.iaload, 1) := by decide +kernel
theorem dX8_areRight_12 : decode cX8_areRight 12 = .ok (.iconst (-1), 1) := by decide +kernel
theorem dX8_areRight_13 : decode cX8_areRight 13 = .ok (.ixor, 1) := by decide +kernel
theorem dX8_areRight_14 : decode cX8_areRight 14 = .ok (.iand, 1) := by decide +kernel
theorem dX8_areRight_15 : decode cX8_areRight 15 = .ok (.ifCond .ne 7, 3) := by decide +kernel
theorem dX8_areRight_18 : decode cX8_areRight 18 = .ok (.iconst 1, 1) := by decide +kernel
theorem dX8_areRight_19 : decode cX8_areRight 19 = .ok (.goto 4, 3) := by decide +kernel
theorem dX8_areRight_22 : decode cX8_areRight 22 = .ok (.iconst 0, 1) := by decide +kernel
theorem dX8_areRight_23 : decode cX8_areRight 23 = .ok (.ireturn, 1) := by decide +kernel
theorem dX8_areTwo_0 : decode cX8_areTwo 0 = .ok (.aload_n 0, 1) := by decide +kernel
theorem dX8_areTwo_1 : decode cX8_areTwo 1 = .ok (.iload_n 1, 1) := by decide +kernel
theorem dX8_areTwo_2 : decode cX8_areTwo 2 = .ok (.invokevirtual 127, 3) := by decide +kernel
theorem dX8_areTwo_5 : decode cX8_areTwo 5 = .ok (.ifCond .eq 20, 3) := by decide +kernel
theorem dX8_areTwo_8 : decode cX8_areTwo 8 = .ok (.aload_n 0, 1) := by decide +kernel
theorem dX8_areTwo_9 : decode cX8_areTwo 9 = .ok (.iload_n 2, 1) := by decide +kernel
theorem dX8_areTwo_10 : decode cX8_areTwo 10 = .ok (.invokevirtual 127, 3) := by decide +kernel
theorem dX8_areTwo_13 : decode cX8_areTwo 13 = .ok (.ifCond .eq 12, 3) := by decide +kernel
theorem dX8_areTwo_16 : decode cX8_areTwo 16 = .ok (.iload_n 1, 1) := by decide +kernel
theorem dX8_areTwo_17 : decode cX8_areTwo 17 = .ok (.iload_n 2, 1) := by decide +kernel
theorem dX8_areTwo_18 : decode cX8_areTwo 18 = .ok (.if_icmp .eq 7, 3) := by decide +kernel
theorem dX8_areTwo_21 : decode cX8_areTwo 21 = .ok (.iconst 1, 1) := by decide +kernel
theorem dX8_areTwo_22 : decode cX8_areTwo 22 = .ok (.goto 4, 3) := by decide +kernel
theorem dX8_areTwo_25 : decode cX8_areTwo 25 = .ok (.iconst 0, 1) := by decide +kernel
theorem dX8_areTwo_26 : decode cX8_areTwo 26 = .ok (.ireturn, 1) := by decide +kernel
theorem dX8_ask_0 : decode cX8_ask 0 = .ok (.aload_n 0, 1) := by decide +kernel
theorem dX8_ask_1 : decode cX8_ask 1 = .ok (.iconst 0, 1) := by decide +kernel
theorem dX8_ask_2 : decode cX8_ask 2 = .ok (.putfield 114, 3) := by decide +kernel
theorem dX8_ask_5 : decode cX8_ask 5 = .ok (.aload_n 0, 1) := by decide +kernel
theorem dX8_ask_6 : decode cX8_ask 6 = .ok (.iconst (-1), 1) := by decide +kernel
theorem dX8_ask_7 : decode cX8_ask 7 = .ok (.iconst (-1), 1) := by decide +kernel
theorem dX8_ask_8 : decode cX8_ask 8 = .ok (.invokevirtual 371, 3) := by decide +kernel
theorem dX8_ask_11 : decode cX8_ask 11 = .ok (.ifCond .ne 6, 3) := by decide +kernel
theorem dX8_ask_14 : decode cX8_ask 14 = .ok (.bipush (-2), 2) := by decide +kernel
theorem dX8_ask_16 : decode cX8_ask 16 = .ok (.ireturn, 1) := by decide +kernel
theorem dX8_ask_17 : decode cX8_ask 17 = .ok (.iconst (-1), 1) := by decide +kernel
theorem dX8_ask_18 : decode cX8_ask 18 = .ok (.istore_n 1, 1) := by decide +kernel
theorem dX8_ask_19 : decode cX8_ask 19 = .ok (.ldc 88, 2) := by decide +kernel
theorem dX8_ask_21 : decode cX8_ask 21 = .ok (.istore_n 2, 1) := by decide +kernel
theorem dX8_ask_22 : decode cX8_ask 22 = .ok (.iconst 0, 1) := by decide +kernel
theorem dX8_ask_23 : decode cX8_ask 23 = .ok (.istore_n 3, 1) := by decide +kernel
theorem dX8_ask_24 : decode cX8_ask 24 = .ok (.iload_n 3, 1) := by decide +kernel
theorem dX8_ask_25 : decode cX8_ask 25 = .ok (.aload_n 0, 1) := by decide +kernel
theorem dX8_ask_26 : decode cX8_ask 26 = .ok (.getfield 13, 3) := by decide +kernel
theorem dX8_ask_29 : decode cX8_ask 29 = .ok (.if_icmp .ge 58, 3) := by decide +kernel
theorem dX8_ask_32 : decode cX8_ask 32 = .ok (.iconst 0, 1) := by decide +kernel
theorem dX8_ask_33 : decode cX8_ask 33 = .ok (.istore 4, 2) := by decide +kernel
theorem dX8_ask_35 : decode cX8_ask 35 = .ok (.iconst 0, 1) := by decide +kernel
theorem dX8_ask_36 : decode cX8_ask 36 = .ok (.istore 5, 2) := by decide +kernel
theorem dX8_ask_38 : decode cX8_ask 38 = .ok (.iload 5, 2) := by decide +kernel
theorem dX8_ask_40 : decode cX8_ask 40 = .ok (.aload_n 0, 1) := by decide +kernel
theorem dX8_ask_41 : decode cX8_ask 41 = .ok (.getfield 120, 3) := by decide +kernel
theorem dX8_ask_44 : decode cX8_ask 44 = .ok (.if_icmp .ge 23, 3) := by decide +kernel
theorem dX8_ask_47 : decode cX8_ask 47 = .ok (.iload 4, 2) := by decide +kernel
theorem dX8_ask_49 : decode cX8_ask 49 = .ok (.aload_n 0, 1) := by decide +kernel
theorem dX8_ask_50 : decode cX8_ask 50 = .ok (.iload_n 3, 1) := by decide +kernel
theorem dX8_ask_51 : decode cX8_ask 51 = .ok (.iload 5, 2) := by decide +kernel
theorem dX8_ask_53 : decode cX8_ask 53 = .ok (.invokevirtual 371, 3) := by decide +kernel
theorem dX8_ask_56 : decode cX8_ask 56 = .ok (.invokestatic 232, 3) := by decide +kernel
theorem dX8_ask_59 : decode cX8_ask 59 = .ok (.istore 4, 2) := by decide +kernel
theorem dX8_ask_61 : decode cX8_ask 61 = .ok (.iinc 5 1, 3) := by decide +kernel
theorem dX8_ask_64 : decode cX8_ask 64 = .ok (.goto (-26), 3) := by decide +kernel
theorem dX8_ask_67 : decode cX8_ask 67 = .ok (.iload 4, 2) := by decide +kernel
theorem dX8_ask_69 : decode cX8_ask 69 = .ok (.iload_n 2, 1) := by decide +kernel
theorem dX8_ask_70 : decode cX8_ask 70 = .ok (.if_icmp .lt 6, 3) := by decide +kernel
theorem dX8_ask_73 : decode cX8_ask 73 = .ok (.goto 8, 3) := by decide +kernel
theorem dX8_ask_76 : decode cX8_ask 76 = .ok (.iload_n 3, 1) := by decide +kernel
theorem dX8_ask_77 : decode cX8_ask 77 = .ok (.istore_n 1, 1) := by decide +kernel
theorem dX8_ask_78 : decode cX8_ask 78 = .ok (.iload 4, 2) := by decide +kernel
theorem dX8_ask_80 : decode cX8_ask 80 = .ok (.istore_n 2, 1) := by decide +kernel
theorem dX8_ask_81 : decode cX8_ask 81 = .ok (.iinc 3 1, 3) := by decide +kernel
theorem dX8_ask_84 : decode cX8_ask 84 = .ok (.goto (-60), 3) := by decide +kernel
theorem dX8_ask_87 : decode cX8_ask 87 = .ok (.aload_n 0, 1) := by decide +kernel
theorem dX8_ask_88 : decode cX8_ask 88 = .ok (.iconst 0, 1) := by decide +kernel
theorem dX8_ask_89 : decode cX8_ask 89 = .ok (.putfield 117, 3) := by decide +kernel
theorem dX8_ask_92 : decode cX8_ask 92 = .ok (.aload_n 0, 1) := by decide +kernel
theorem dX8_ask_93 : decode cX8_ask 93 = .ok (.iload_n 2, 1) := by decide +kernel
theorem dX8_ask_94 : decode cX8_ask 94 = .ok (.i2l, 1) := by decide +kernel
theorem dX8_ask_95 : decode cX8_ask 95 = .ok (.invokevirtual 284, 3) := by decide +kernel
theorem dX8_ask_98 : decode cX8_ask 98 = .ok (.iload_n 1, 1) := by decide +kernel
theorem dX8_ask_99 : decode cX8_ask 99 = .ok (.ireturn, 1) := by decide +kernel
theorem dX8_away_0 : decode cX8_away 0 = .ok (.aload_n 0, 1) := by decide +kernel
theorem dX8_away_1 : decode cX8_away 1 = .ok (.iconst 0, 1) := by decide +kernel
theorem dX8_away_2 : decode cX8_away 2 = .ok (.putfield 114, 3) := by decide +kernel
theorem dX8_away_5 : decode cX8_away 5 = .ok (.aload_n 0, 1) := by decide +kernel
theorem dX8_away_6 : decode cX8_away 6 = .ok (.invokevirtual 347, 3) := by decide +kernel
theorem dX8_away_9 : decode cX8_away 9 = .ok (.iconst 1, 1) := by decide +kernel
theorem dX8_away_10 : decode cX8_away 10 = .ok (.aload_n 0, 1) := by decide +kernel
theorem dX8_away_11 : decode cX8_away 11 = .ok (.getfield 120, 3) := by decide +kernel
theorem dX8_away_14 : decode cX8_away 14 = .ok (.ishl, 1) := by decide +kernel
theorem dX8_away_15 : decode cX8_away 15 = .ok (.iconst 1, 1) := by decide +kernel
theorem dX8_away_16 : decode cX8_away 16 = .ok (.isub, 1) := by decide +kernel
theorem dX8_away_17 : decode cX8_away 17 = .ok (.aload_n 0, 1) := by decide +kernel
theorem dX8_away_18 : decode cX8_away 18 = .ok (.aload_n 0, 1) := by decide +kernel
theorem dX8_away_19 : decode cX8_away 19 = .ok (.getfield 9, 3) := by decide +kernel
theorem dX8_away_22 : decode cX8_away 22 = .ok (.invokevirtual 261, 3) := by decide +kernel
theorem dX8_away_25 : decode cX8_away 25 = .ok (.iconst (-1), 1) := by decide +kernel
theorem dX8_away_26 : decode cX8_away 26 = .ok (.ixor, 1) := by decide +kernel
theorem dX8_away_27 : decode cX8_away 27 = .ok (.iand, 1) := by decide +kernel
theorem dX8_away_28 : decode cX8_away 28 = .ok (.istore_n 1, 1) := by decide +kernel
theorem dX8_away_29 : decode cX8_away 29 = .ok (.iconst (-1), 1) := by decide +kernel
theorem dX8_away_30 : decode cX8_away 30 = .ok (.istore_n 2, 1) := by decide +kernel
theorem dX8_away_31 : decode cX8_away 31 = .ok (.iconst 0, 1) := by decide +kernel
theorem dX8_away_32 : decode cX8_away 32 = .ok (.istore_n 3, 1) := by decide +kernel
theorem dX8_away_33 : decode cX8_away 33 = .ok (.iload_n 3, 1) := by decide +kernel
theorem dX8_away_34 : decode cX8_away 34 = .ok (.iload_n 1, 1) := by decide +kernel
theorem dX8_away_35 : decode cX8_away 35 = .ok (.if_icmp .gt 51, 3) := by decide +kernel
theorem dX8_away_38 : decode cX8_away 38 = .ok (.iload_n 3, 1) := by decide +kernel
theorem dX8_away_39 : decode cX8_away 39 = .ok (.iload_n 1, 1) := by decide +kernel
theorem dX8_away_40 : decode cX8_away 40 = .ok (.iconst (-1), 1) := by decide +kernel
theorem dX8_away_41 : decode cX8_away 41 = .ok (.ixor, 1) := by decide +kernel
theorem dX8_away_42 : decode cX8_away 42 = .ok (.iand, 1) := by decide +kernel
theorem dX8_away_43 : decode cX8_away 43 = .ok (.ifCond .ne 37, 3) := by decide +kernel
theorem dX8_away_46 : decode cX8_away 46 = .ok (.aload_n 0, 1) := by decide +kernel
theorem dX8_away_47 : decode cX8_away 47 = .ok (.getfield 95, 3) := by decide +kernel
theorem dX8_away_50 : decode cX8_away 50 = .ok (.iload_n 1, 1) := by decide +kernel
theorem dX8_away_51 : decode cX8_away 51 = .ok (.iload_n 3, 1) := by decide +kernel
theorem dX8_away_52 : decode cX8_away 52 = .ok (.iconst (-1), 1) := by decide +kernel
theorem dX8_away_53 : decode cX8_away 53 = .ok (.ixor, 1) := by decide +kernel
theorem dX8_away_54 : decode cX8_away 54 = .ok (.iand, 1) := by decide +kernel
theorem dX8_away_55 : decode cX8_away 55 = .ok (.baload, 1) := by decide +kernel
theorem dX8_away_56 : decode cX8_away 56 = .ok (.ifCond .ne 6, 3) := by decide +kernel
theorem dX8_away_59 : decode cX8_away 59 = .ok (.goto 21, 3) := by decide +kernel
theorem dX8_away_62 : decode cX8_away 62 = .ok (.iload_n 2, 1) := by decide +kernel
theorem dX8_away_63 : decode cX8_away 63 = .ok (.iconst (-1), 1) := by decide +kernel
theorem dX8_away_64 : decode cX8_away 64 = .ok (.if_icmp .eq 14, 3) := by decide +kernel
theorem dX8_away_67 : decode cX8_away 67 = .ok (.iload_n 3, 1) := by decide +kernel
theorem dX8_away_68 : decode cX8_away 68 = .ok (.invokestatic 221, 3) := by decide +kernel
theorem dX8_away_71 : decode cX8_away 71 = .ok (.iload_n 2, 1) := by decide +kernel
theorem dX8_away_72 : decode cX8_away 72 = .ok (.invokestatic 221, 3) := by decide +kernel
theorem dX8_away_75 : decode cX8_away 75 = .ok (.if_icmp .le 5, 3) := by decide +kernel
theorem dX8_away_78 : decode cX8_away 78 = .ok (.iload_n 3, 1) := by decide +kernel
theorem dX8_away_79 : decode cX8_away 79 = .ok (.istore_n 2, 1) := by decide +kernel
theorem dX8_away_80 : decode cX8_away 80 = .ok (.iinc 3 1, 3) := by decide +kernel
theorem dX8_away_83 : decode cX8_away 83 = .ok (.goto (-50), 3) := by decide +kernel
theorem dX8_away_86 : decode cX8_away 86 = .ok (.iload_n 2, 1) := by decide +kernel
theorem dX8_away_87 : decode cX8_away 87 = .ok (.iconst (-1), 1) := by decide +kernel
