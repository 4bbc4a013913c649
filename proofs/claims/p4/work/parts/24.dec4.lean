theorem dX8_away_88 : decode cX8_away 88 = .ok (.if_icmp .ne 6, 3) := by decide +kernel
theorem dX8_away_91 : decode cX8_away 91 = .ok (.bipush (-2), 2) := by decide +kernel
theorem dX8_away_93 : decode cX8_away 93 = .ok (.ireturn, 1) := by decide +kernel
theorem dX8_away_94 : decode cX8_away 94 = .ok (.aload_n 0, 1) := by decide +kernel
theorem dX8_away_95 : decode cX8_away 95 = .ok (.iconst 0, 1) := by decide +kernel
theorem dX8_away_96 : decode cX8_away 96 = .ok (.putfield 117, 3) := by decide +kernel
theorem dX8_away_99 : decode cX8_away 99 = .ok (.aload_n 0, 1) := by decide +kernel
theorem dX8_away_100 : decode cX8_away 100 = .ok (.iload_n 2, 1) := by decide +kernel
theorem dX8_away_101 : decode cX8_away 101 = .ok (.i2l, 1) := by decide +kernel
theorem dX8_away_102 : decode cX8_away 102 = .ok (.invokevirtual 284, 3) := by decide +kernel
theorem dX8_away_105 : decode cX8_away 105 = .ok (.iload_n 2, 1) := by decide +kernel
theorem dX8_away_106 : decode cX8_away 106 = .ok (.invokestatic 221, 3) := by decide +kernel
theorem dX8_away_109 : decode cX8_away 109 = .ok (.ireturn, 1) := by decide +kernel
theorem dX8_bare_0 : decode cX8_bare 0 = .ok (.aload_n 0, 1) := by decide +kernel
theorem dX8_bare_1 : decode cX8_bare 1 = .ok (.iconst 0, 1) := by decide +kernel
theorem dX8_bare_2 : decode cX8_bare 2 = .ok (.putfield 114, 3) := by decide +kernel
theorem dX8_bare_5 : decode cX8_bare 5 = .ok (.aload_n 0, 1) := by decide +kernel
theorem dX8_bare_6 : decode cX8_bare 6 = .ok (.iconst (-1), 1) := by decide +kernel
theorem dX8_bare_7 : decode cX8_bare 7 = .ok (.invokevirtual 335, 3) := by decide +kernel
theorem dX8_bare_10 : decode cX8_bare 10 = .ok (.aload_n 0, 1) := by decide +kernel
theorem dX8_bare_11 : decode cX8_bare 11 = .ok (.iconst 2, 1) := by decide +kernel
theorem dX8_bare_12 : decode cX8_bare 12 = .ok (.invokevirtual 329, 3) := by decide +kernel
theorem dX8_bare_15 : decode cX8_bare 15 = .ok (.pop, 1) := by decide +kernel
theorem dX8_bare_16 : decode cX8_bare 16 = .ok (.iconst (-1), 1) := by decide +kernel
theorem dX8_bare_17 : decode cX8_bare 17 = .ok (.istore_n 1, 1) := by decide +kernel
theorem dX8_bare_18 : decode cX8_bare 18 = .ok (.iconst 1, 1) := by decide +kernel
theorem dX8_bare_19 : decode cX8_bare 19 = .ok (.istore_n 2, 1) := by decide +kernel
theorem dX8_bare_20 : decode cX8_bare 20 = .ok (.iload_n 2, 1) := by decide +kernel
theorem dX8_bare_21 : decode cX8_bare 21 = .ok (.aload_n 0, 1) := by decide +kernel
theorem dX8_bare_22 : decode cX8_bare 22 = .ok (.invokevirtual 307, 3) := by decide +kernel
theorem dX8_bare_25 : decode cX8_bare 25 = .ok (.if_icmp .gt 38, 3) := by decide +kernel
theorem dX8_bare_28 : decode cX8_bare 28 = .ok (.aload_n 0, 1) := by decide +kernel
theorem dX8_bare_29 : decode cX8_bare 29 = .ok (.getfield 82, 3) := by decide +kernel
theorem dX8_bare_32 : decode cX8_bare 32 = .ok (.iload_n 2, 1) := by decide +kernel
theorem dX8_bare_33 : decode cX8_bare 33 = .ok (.iaload, 1) := by decide +kernel
theorem dX8_bare_34 : decode cX8_bare 34 = .ok (.ldc 88, 2) := by decide +kernel
theorem dX8_bare_36 : decode cX8_bare 36 = .ok (.if_icmp .ne 21, 3) := by decide +kernel
theorem dX8_bare_39 : decode cX8_bare 39 = .ok (.iload_n 1, 1) := by decide +kernel
theorem dX8_bare_40 : decode cX8_bare 40 = .ok (.iconst (-1), 1) := by decide +kernel
theorem dX8_bare_41 : decode cX8_bare 41 = .ok (.if_icmp .eq 14, 3) := by decide +kernel
theorem dX8_bare_44 : decode cX8_bare 44 = .ok (.iload_n 2, 1) := by decide +kernel
theorem dX8_bare_45 : decode cX8_bare 45 = .ok (.invokestatic 221, 3) := by decide +kernel
theorem dX8_bare_48 : decode cX8_bare 48 = .ok (.iload_n 1, 1) := by decide +kernel
theorem dX8_bare_49 : decode cX8_bare 49 = .ok (.invokestatic 221, 3) := by decide +kernel
theorem dX8_bare_52 : decode cX8_bare 52 = .ok (.if_icmp .ge 5, 3) := by decide +kernel
theorem dX8_bare_55 : decode cX8_bare 55 = .ok (.iload_n 2, 1) := by decide +kernel
theorem dX8_bare_56 : decode cX8_bare 56 = .ok (.istore_n 1, 1) := by decide +kernel
theorem dX8_bare_57 : decode cX8_bare 57 = .ok (.iinc 2 1, 3) := by decide +kernel
theorem dX8_bare_60 : decode cX8_bare 60 = .ok (.goto (-40), 3) := by decide +kernel
theorem dX8_bare_63 : decode cX8_bare 63 = .ok (.iload_n 1, 1) := by decide +kernel
theorem dX8_bare_64 : decode cX8_bare 64 = .ok (.iconst (-1), 1) := by decide +kernel
theorem dX8_bare_65 : decode cX8_bare 65 = .ok (.if_icmp .ne 6, 3) := by decide +kernel
theorem dX8_bare_68 : decode cX8_bare 68 = .ok (.bipush (-2), 2) := by decide +kernel
theorem dX8_bare_70 : decode cX8_bare 70 = .ok (.ireturn, 1) := by decide +kernel
theorem dX8_bare_71 : decode cX8_bare 71 = .ok (.aload_n 0, 1) := by decide +kernel
theorem dX8_bare_72 : decode cX8_bare 72 = .ok (.iconst 0, 1) := by decide +kernel
theorem dX8_bare_73 : decode cX8_bare 73 = .ok (.putfield 117, 3) := by decide +kernel
theorem dX8_bare_76 : decode cX8_bare 76 = .ok (.aload_n 0, 1) := by decide +kernel
theorem dX8_bare_77 : decode cX8_bare 77 = .ok (.iload_n 1, 1) := by decide +kernel
theorem dX8_bare_78 : decode cX8_bare 78 = .ok (.i2l, 1) := by decide +kernel
theorem dX8_bare_79 : decode cX8_bare 79 = .ok (.invokevirtual 284, 3) := by decide +kernel
theorem dX8_bare_82 : decode cX8_bare 82 = .ok (.iload_n 1, 1) := by decide +kernel
theorem dX8_bare_83 : decode cX8_bare 83 = .ok (.invokestatic 221, 3) := by decide +kernel
theorem dX8_bare_86 : decode cX8_bare 86 = .ok (.ireturn, 1) := by decide +kernel
theorem dX8_begin_0 : decode cX8_begin 0 = .ok (.aload_n 0, 1) := by decide +kernel
theorem dX8_begin_1 : decode cX8_begin 1 = .ok (.aload_n 1, 1) := by decide +kernel
theorem dX8_begin_2 : decode cX8_begin 2 = .ok (.putfield 134, 3) := by decide +kernel
theorem dX8_begin_5 : decode cX8_begin 5 = .ok (.aload_n 0, 1) := by decide +kernel
theorem dX8_begin_6 : decode cX8_begin 6 = .ok (.iload_n 2, 1) := by decide +kernel
theorem dX8_begin_7 : decode cX8_begin 7 = .ok (.putfield 137, 3) := by decide +kernel
theorem dX8_begin_10 : decode cX8_begin 10 = .ok (.aload_n 0, 1) := by decide +kernel
theorem dX8_begin_11 : decode cX8_begin 11 = .ok (.iload_n 3, 1) := by decide +kernel
theorem dX8_begin_12 : decode cX8_begin 12 = .ok (.putfield 140, 3) := by decide +kernel
theorem dX8_begin_15 : decode cX8_begin 15 = .ok (.aload_n 0, 1) := by decide +kernel
theorem dX8_begin_16 : decode cX8_begin 16 = .ok (.iconst 0, 1) := by decide +kernel
theorem dX8_begin_17 : decode cX8_begin 17 = .ok (.putfield 143, 3) := by decide +kernel
theorem dX8_begin_20 : decode cX8_begin 20 = .ok (.aload_n 0, 1) := by decide +kernel
theorem dX8_begin_21 : decode cX8_begin 21 = .ok (.iconst (-1), 1) := by decide +kernel
theorem dX8_begin_22 : decode cX8_begin 22 = .ok (.putfield 146, 3) := by decide +kernel
theorem dX8_begin_25 : decode cX8_begin 25 = .ok (.return_, 1) := by decide +kernel
theorem dX8_beginText_0 : decode cX8_beginText 0 = .ok (.aload_n 0, 1) := by decide +kernel
theorem dX8_beginText_1 : decode cX8_beginText 1 = .ok (.aload_n 0, 1) := by decide +kernel
theorem dX8_beginText_2 : decode cX8_beginText 2 = .ok (.getfield 29, 3) := by decide +kernel
theorem dX8_beginText_5 : decode cX8_beginText 5 = .ok (.aload_n 0, 1) := by decide +kernel
theorem dX8_beginText_6 : decode cX8_beginText 6 = .ok (.getfield 131, 3) := by decide +kernel
theorem dX8_beginText_9 : decode cX8_beginText 9 = .ok (.iload_n 1, 1) := by decide +kernel
theorem dX8_beginText_10 : decode cX8_beginText 10 = .ok (.invokevirtual 149, 3) := by decide +kernel
theorem dX8_beginText_13 : decode cX8_beginText 13 = .ok (.aload_n 0, 1) := by decide +kernel
theorem dX8_beginText_14 : decode cX8_beginText 14 = .ok (.iconst 0, 1) := by decide +kernel
theorem dX8_beginText_15 : decode cX8_beginText 15 = .ok (.putfield 131, 3) := by decide +kernel
theorem dX8_beginText_18 : decode cX8_beginText 18 = .ok (.return_, 1) := by decide +kernel
theorem dX8_bringMay_0 : decode cX8_bringMay 0 = .ok (.iconst 0, 1) := by decide +kernel
theorem dX8_bringMay_1 : decode cX8_bringMay 1 = .ok (.istore_n 1, 1) := by decide +kernel
theorem dX8_bringMay_2 : decode cX8_bringMay 2 = .ok (.iload_n 1, 1) := by decide +kernel
theorem dX8_bringMay_3 : decode cX8_bringMay 3 = .ok (.bipush 8, 2) := by decide +kernel
theorem dX8_bringMay_5 : decode cX8_bringMay 5 = .ok (.if_icmp .ge 33, 3) := by decide +kernel
theorem dX8_bringMay_8 : decode cX8_bringMay 8 = .ok (.aload_n 0, 1) := by decide +kernel
theorem dX8_bringMay_9 : decode cX8_bringMay 9 = .ok (.getfield 67, 3) := by decide +kernel
theorem dX8_bringMay_12 : decode cX8_bringMay 12 = .ok (.iload_n 1, 1) := by decide +kernel
theorem dX8_bringMay_13 : decode cX8_bringMay 13 = .ok (.aload_n 0, 1) := by decide +kernel
theorem dX8_bringMay_14 : decode cX8_bringMay 14 = .ok (.getfield 73, 3) := by decide +kernel
theorem dX8_bringMay_17 : decode cX8_bringMay 17 = .ok (.iload_n 1, 1) := by decide +kernel
theorem dX8_bringMay_18 : decode cX8_bringMay 18 = .ok (.iaload, 1) := by decide +kernel
theorem dX8_bringMay_19 : decode cX8_bringMay 19 = .ok (.iastore, 1) := by decide +kernel
theorem dX8_bringMay_20 : decode cX8_bringMay 20 = .ok (.aload_n 0, 1) := by decide +kernel
theorem dX8_bringMay_21 : decode cX8_bringMay 21 = .ok (.getfield 70, 3) := by decide +kernel
theorem dX8_bringMay_24 : decode cX8_bringMay 24 = .ok (.iload_n 1, 1) := by decide +kernel
theorem dX8_bringMay_25 : decode cX8_bringMay 25 = .ok (.aload_n 0, 1) := by decide +kernel
theorem dX8_bringMay_26 : decode cX8_bringMay 26 = .ok (.getfield 76, 3) := by decide +kernel
theorem dX8_bringMay_29 : decode cX8_bringMay 29 = .ok (.iload_n 1, 1) := by decide +kernel
theorem dX8_bringMay_30 : decode cX8_bringMay 30 = .ok (.iaload, 1) := by decide +kernel
theorem dX8_bringMay_31 : decode cX8_bringMay 31 = .ok (.iastore, 1) := by decide +kernel
theorem dX8_bringMay_32 : decode cX8_bringMay 32 = .ok (.iinc 1 1, 3) := by decide +kernel
theorem dX8_bringMay_35 : decode cX8_bringMay 35 = .ok (.goto (-33), 3) := by decide +kernel
theorem dX8_bringMay_38 : decode cX8_bringMay 38 = .ok (.return_, 1) := by decide +kernel
theorem dX8_canTake_0 : decode cX8_canTake 0 = .ok (.iload_n 2, 1) := by decide +kernel
theorem dX8_canTake_1 : decode cX8_canTake 1 = .ok (.invokestatic 221, 3) := by decide +kernel
theorem dX8_canTake_4 : decode cX8_canTake 4 = .ok (.aload_n 0, 1) := by decide +kernel
theorem dX8_canTake_5 : decode cX8_canTake 5 = .ok (.getfield 20, 3) := by decide +kernel
theorem dX8_canTake_8 : decode cX8_canTake 8 = .ok (.iload_n 1, 1) := by decide +kernel
theorem dX8_canTake_9 : decode cX8_canTake 9 = .ok (.iaload, 1) := by decide +kernel
theorem dX8_canTake_10 : decode cX8_canTake 10 = .ok (.if_icmp .gt 33, 3) := by decide +kernel
theorem dX8_canTake_13 : decode cX8_canTake 13 = .ok (.aload_n 0, 1) := by decide +kernel
theorem dX8_canTake_14 : decode cX8_canTake 14 = .ok (.getfield 70, 3) := by decide +kernel
theorem dX8_canTake_17 : decode cX8_canTake 17 = .ok (.iload_n 1, 1) := by decide +kernel
theorem dX8_canTake_18 : decode cX8_canTake 18 = .ok (.iaload, 1) := by decide +kernel
theorem dX8_canTake_19 : decode cX8_canTake 19 = .ok (.iload_n 2, 1) := by decide +kernel
theorem dX8_canTake_20 : decode cX8_canTake 20 = .ok (.iconst (-1), 1) := by decide +kernel
theorem dX8_canTake_21 : decode cX8_canTake 21 = .ok (.ixor, 1) := by decide +kernel
theorem dX8_canTake_22 : decode cX8_canTake 22 = .ok (.iand, 1) := by decide +kernel
theorem dX8_canTake_23 : decode cX8_canTake 23 = .ok (.ifCond .ne 20, 3) := by decide +kernel
theorem dX8_canTake_26 : decode cX8_canTake 26 = .ok (.aload_n 0, 1) := by decide +kernel
theorem dX8_canTake_27 : decode cX8_canTake 27 = .ok (.iload_n 1, 1) := by decide +kernel
theorem dX8_canTake_28 : decode cX8_canTake 28 = .ok (.iload_n 2, 1) := by decide +kernel
theorem dX8_canTake_29 : decode cX8_canTake 29 = .ok (.invokevirtual 310, 3) := by decide +kernel
theorem dX8_canTake_32 : decode cX8_canTake 32 = .ok (.aload_n 0, 1) := by decide +kernel
theorem dX8_canTake_33 : decode cX8_canTake 33 = .ok (.getfield 89, 3) := by decide +kernel
theorem dX8_canTake_36 : decode cX8_canTake 36 = .ok (.if_icmp .gt 7, 3) := by decide +kernel
theorem dX8_canTake_39 : decode cX8_canTake 39 = .ok (.iconst 1, 1) := by decide +kernel
theorem dX8_canTake_40 : decode cX8_canTake 40 = .ok (.goto 4, 3) := by decide +kernel
theorem dX8_canTake_43 : decode cX8_canTake 43 = .ok (.iconst 0, 1) := by decide +kernel
theorem dX8_canTake_44 : decode cX8_canTake 44 = .ok (.ireturn, 1) := by decide +kernel
theorem dX8_changes_0 : decode cX8_changes 0 = .ok (.aload_n 0, 1) := by decide +kernel
theorem dX8_changes_1 : decode cX8_changes 1 = .ok (.iconst 0, 1) := by decide +kernel
theorem dX8_changes_2 : decode cX8_changes 2 = .ok (.putfield 114, 3) := by decide +kernel
theorem dX8_changes_5 : decode cX8_changes 5 = .ok (.iconst 0, 1) := by decide +kernel
theorem dX8_changes_6 : decode cX8_changes 6 = .ok (.istore_n 1, 1) := by decide +kernel
theorem dX8_changes_7 : decode cX8_changes 7 = .ok (.iconst 0, 1) := by decide +kernel
theorem dX8_changes_8 : decode cX8_changes 8 = .ok (.istore_n 2, 1) := by decide +kernel
theorem dX8_changes_9 : decode cX8_changes 9 = .ok (.iconst 0, 1) := by decide +kernel
theorem dX8_changes_10 : decode cX8_changes 10 = .ok (.istore_n 3, 1) := by decide +kernel
theorem dX8_changes_11 : decode cX8_changes 11 = .ok (.iconst 1, 1) := by decide +kernel
theorem dX8_changes_12 : decode cX8_changes 12 = .ok (.istore 4, 2) := by decide +kernel
theorem dX8_changes_14 : decode cX8_changes 14 = .ok (.iload 4, 2) := by decide +kernel
theorem dX8_changes_16 : decode cX8_changes 16 = .ok (.aload_n 0, 1) := by decide +kernel
theorem dX8_changes_17 : decode cX8_changes 17 = .ok (.getfield 13, 3) := by decide +kernel
theorem dX8_changes_20 : decode cX8_changes 20 = .ok (.if_icmp .ge 96, 3) := by decide +kernel
theorem dX8_changes_23 : decode cX8_changes 23 = .ok (.aload_n 0, 1) := by decide +kernel
theorem dX8_changes_24 : decode cX8_changes 24 = .ok (.getfield 9, 3) := by decide +kernel
theorem dX8_changes_27 : decode cX8_changes 27 = .ok (.iload 4, 2) := by decide +kernel
theorem dX8_changes_29 : decode cX8_changes 29 = .ok (.iconst 1, 1) := by decide +kernel
theorem dX8_changes_30 : decode cX8_changes 30 = .ok (.isub, 1) := by decide +kernel
theorem dX8_changes_31 : decode cX8_changes 31 = .ok (.iaload, 1) := by decide +kernel
theorem dX8_changes_32 : decode cX8_changes 32 = .ok (.istore 5, 2) := by decide +kernel
theorem dX8_changes_34 : decode cX8_changes 34 = .ok (.aload_n 0, 1) := by decide +kernel
theorem dX8_changes_35 : decode cX8_changes 35 = .ok (.getfield 9, 3) := by decide +kernel
theorem dX8_changes_38 : decode cX8_changes 38 = .ok (.iload 4, 2) := by decide +kernel
theorem dX8_changes_40 : decode cX8_changes 40 = .ok (.iaload, 1) := by decide +kernel
theorem dX8_changes_41 : decode cX8_changes 41 = .ok (.istore 6, 2) := by decide +kernel
theorem dX8_changes_43 : decode cX8_changes 43 = .ok (.iload 5, 2) := by decide +kernel
theorem dX8_changes_45 : decode cX8_changes 45 = .ok (.iconst (-1), 1) := by decide +kernel
theorem dX8_changes_46 : decode cX8_changes 46 = .ok (.if_icmp .eq 64, 3) := by decide +kernel
theorem dX8_changes_49 : decode cX8_changes 49 = .ok (.iload 6, 2) := by decide +kernel
theorem dX8_changes_51 : decode cX8_changes 51 = .ok (.iconst (-1), 1) := by decide +kernel
theorem dX8_changes_52 : decode cX8_changes 52 = .ok (.if_icmp .eq 58, 3) := by decide +kernel
theorem dX8_changes_55 : decode cX8_changes 55 = .ok (.iload 5, 2) := by decide +kernel
theorem dX8_changes_57 : decode cX8_changes 57 = .ok (.iload 6, 2) := by decide +kernel
theorem dX8_changes_59 : decode cX8_changes 59 = .ok (.if_icmp .ne 6, 3) := by decide +kernel
theorem dX8_changes_62 : decode cX8_changes 62 = .ok (.goto 48, 3) := by decide +kernel
theorem dX8_changes_65 : decode cX8_changes 65 = .ok (.aload_n 0, 1) := by decide +kernel
theorem dX8_changes_66 : decode cX8_changes 66 = .ok (.getfield 23, 3) := by decide +kernel
theorem dX8_changes_69 : decode cX8_changes 69 = .ok (.iload 5, 2) := by decide +kernel
theorem dX8_changes_71 : decode cX8_changes 71 = .ok (.iaload, 1) := by decide +kernel
theorem dX8_changes_72 : decode cX8_changes 72 = .ok (.aload_n 0, 1) := by decide +kernel
theorem dX8_changes_73 : decode cX8_changes 73 = .ok (.getfield 23, 3) := by decide +kernel
theorem dX8_changes_76 : decode cX8_changes 76 = .ok (.iload 6, 2) := by decide +kernel
theorem dX8_changes_78 : decode cX8_changes 78 = .ok (.iaload, 1) := by decide +kernel
theorem dX8_changes_79 : decode cX8_changes 79 = .ok (.isub, 1) := by decide +kernel
theorem dX8_changes_80 : decode cX8_changes 80 = .ok (.invokestatic 274, 3) := by decide +kernel
theorem dX8_changes_83 : decode cX8_changes 83 = .ok (.istore 7, 2) := by decide +kernel
theorem dX8_changes_85 : decode cX8_changes 85 = .ok (.iinc 1 1, 3) := by decide +kernel
theorem dX8_changes_88 : decode cX8_changes 88 = .ok (.iload_n 2, 1) := by decide +kernel
theorem dX8_changes_89 : decode cX8_changes 89 = .ok (.iload 7, 2) := by decide +kernel
theorem dX8_changes_91 : decode cX8_changes 91 = .ok (.aload_n 0, 1) := by decide +kernel
theorem dX8_changes_92 : decode cX8_changes 92 = .ok (.getfield 17, 3) := by decide +kernel
theorem dX8_changes_95 : decode cX8_changes 95 = .ok (.if_icmp .le 7, 3) := by decide +kernel
theorem dX8_changes_98 : decode cX8_changes 98 = .ok (.iconst 1, 1) := by decide +kernel
theorem dX8_changes_99 : decode cX8_changes 99 = .ok (.goto 4, 3) := by decide +kernel
theorem dX8_changes_102 : decode cX8_changes 102 = .ok (.iconst 0, 1) := by decide +kernel
theorem dX8_changes_103 : decode cX8_changes 103 = .ok (.iadd, 1) := by decide +kernel
theorem dX8_changes_104 : decode cX8_changes 104 = .ok (.istore_n 2, 1) := by decide +kernel
theorem dX8_changes_105 : decode cX8_changes 105 = .ok (.iload_n 3, 1) := by decide +kernel
theorem dX8_changes_106 : decode cX8_changes 106 = .ok (.iload 7, 2) := by decide +kernel
theorem dX8_changes_108 : decode cX8_changes 108 = .ok (.iadd, 1) := by decide +kernel
theorem dX8_changes_109 : decode cX8_changes 109 = .ok (.istore_n 3, 1) := by decide +kernel
theorem dX8_changes_110 : decode cX8_changes 110 = .ok (.iinc 4 1, 3) := by decide +kernel
theorem dX8_changes_113 : decode cX8_changes 113 = .ok (.goto (-99), 3) := by decide +kernel
theorem dX8_changes_116 : decode cX8_changes 116 = .ok (.aload_n 0, 1) := by decide +kernel
theorem dX8_changes_117 : decode cX8_changes 117 = .ok (.iconst 0, 1) := by decide +kernel
theorem dX8_changes_118 : decode cX8_changes 118 = .ok (.putfield 117, 3) := by decide +kernel
theorem dX8_changes_121 : decode cX8_changes 121 = .ok (.aload_n 0, 1) := by decide +kernel
theorem dX8_changes_122 : decode cX8_changes 122 = .ok (.iload_n 2, 1) := by decide +kernel
theorem dX8_changes_123 : decode cX8_changes 123 = .ok (.i2l, 1) := by decide +kernel
theorem dX8_changes_124 : decode cX8_changes 124 = .ok (.invokevirtual 284, 3) := by decide +kernel
theorem dX8_changes_127 : decode cX8_changes 127 = .ok (.aload_n 0, 1) := by decide +kernel
theorem dX8_changes_128 : decode cX8_changes 128 = .ok (.iload_n 3, 1) := by decide +kernel
theorem dX8_changes_129 : decode cX8_changes 129 = .ok (.i2l, 1) := by decide +kernel
theorem dX8_changes_130 : decode cX8_changes 130 = .ok (.invokevirtual 284, 3) := by decide +kernel
theorem dX8_changes_133 : decode cX8_changes 133 = .ok (.iload_n 1, 1) := by decide +kernel
theorem dX8_changes_134 : decode cX8_changes 134 = .ok (.ireturn, 1) := by decide +kernel
theorem dX8_common_0 : decode cX8_common 0 = .ok (.lload_n 2, 1) := by decide +kernel
theorem dX8_common_1 : decode cX8_common 1 = .ok (.lconst 0, 1) := by decide +kernel
theorem dX8_common_2 : decode cX8_common 2 = .ok (.lcmp, 1) := by decide +kernel
theorem dX8_common_3 : decode cX8_common 3 = .ok (.ifCond .ne 7, 3) := by decide +kernel
theorem dX8_common_6 : decode cX8_common 6 = .ok (.lload_n 0, 1) := by decide +kernel
theorem dX8_common_7 : decode cX8_common 7 = .ok (.goto 10, 3) := by decide +kernel
theorem dX8_common_10 : decode cX8_common 10 = .ok (.lload_n 2, 1) := by decide +kernel
theorem dX8_common_11 : decode cX8_common 11 = .ok (.lload_n 0, 1) := by decide +kernel
theorem dX8_common_12 : decode cX8_common 12 = .ok (.lload_n 2, 1) := by decide +kernel
theorem dX8_common_13 : decode cX8_common 13 = .ok (.lrem, 1) := by decide +kernel
theorem dX8_common_14 : decode cX8_common 14 = .ok (.invokestatic 374, 3) := by decide +kernel
theorem dX8_common_17 : decode cX8_common 17 = .ok (.lreturn, 1) := by decide +kernel
theorem dX8_costOf_0 : decode cX8_costOf 0 = .ok (.iload_n 1, 1) := by decide +kernel
theorem dX8_costOf_1 : decode cX8_costOf 1 = .ok (.ifCond .ne 12, 3) := by decide +kernel
theorem dX8_costOf_4 : decode cX8_costOf 4 = .ok (.aload_n 0, 1) := by decide +kernel
theorem dX8_costOf_5 : decode cX8_costOf 5 = .ok (.iload_n 2, 1) := by decide +kernel
theorem dX8_costOf_6 : decode cX8_costOf 6 = .ok (.iload_n 3, 1) := by decide +kernel
theorem dX8_costOf_7 : decode cX8_costOf 7 = .ok (.invokevirtual 310, 3) := by decide +kernel
theorem dX8_costOf_10 : decode cX8_costOf 10 = .ok (.goto 28, 3) := by decide +kernel
theorem dX8_costOf_13 : decode cX8_costOf 13 = .ok (.iload_n 1, 1) := by decide +kernel
theorem dX8_costOf_14 : decode cX8_costOf 14 = .ok (.iconst 1, 1) := by decide +kernel
theorem dX8_costOf_15 : decode cX8_costOf 15 = .ok (.if_icmp .ne 22, 3) := by decide +kernel
theorem dX8_costOf_18 : decode cX8_costOf 18 = .ok (.iload_n 3, 1) := by decide +kernel
theorem dX8_costOf_19 : decode cX8_costOf 19 = .ok (.aload_n 0, 1) := by decide +kernel
theorem dX8_costOf_20 : decode cX8_costOf 20 = .ok (.aload_n 0, 1) := by decide +kernel
theorem dX8_costOf_21 : decode cX8_costOf 21 = .ok (.getfield 9, 3) := by decide +kernel
theorem dX8_costOf_24 : decode cX8_costOf 24 = .ok (.iload_n 2, 1) := by decide +kernel
theorem dX8_costOf_25 : decode cX8_costOf 25 = .ok (.invokevirtual 238, 3) := by decide +kernel
theorem dX8_costOf_28 : decode cX8_costOf 28 = .ok (.iconst (-1), 1) := by decide +kernel
theorem dX8_costOf_29 : decode cX8_costOf 29 = .ok (.ixor, 1) := by decide +kernel
theorem dX8_costOf_30 : decode cX8_costOf 30 = .ok (.iand, 1) := by decide +kernel
theorem dX8_costOf_31 : decode cX8_costOf 31 = .ok (.invokestatic 221, 3) := by decide +kernel
theorem dX8_costOf_34 : decode cX8_costOf 34 = .ok (.goto 4, 3) := by decide +kernel
theorem dX8_costOf_37 : decode cX8_costOf 37 = .ok (.iconst 0, 1) := by decide +kernel
theorem dX8_costOf_38 : decode cX8_costOf 38 = .ok (.ireturn, 1) := by decide +kernel
theorem dX8_count_0 : decode cX8_count 0 = .ok (.aload_n 0, 1) := by decide +kernel
theorem dX8_count_1 : decode cX8_count 1 = .ok (.iconst 0, 1) := by decide +kernel
theorem dX8_count_2 : decode cX8_count 2 = .ok (.putfield 114, 3) := by decide +kernel
theorem dX8_count_5 : decode cX8_count 5 = .ok (.iload_n 1, 1) := by decide +kernel
theorem dX8_count_6 : decode cX8_count 6 = .ok (.bipush 20, 2) := by decide +kernel
theorem dX8_count_8 : decode cX8_count 8 = .ok (.bipush 27, 2) := by decide +kernel
theorem dX8_count_10 : decode cX8_count 10 = .ok (.invokestatic 123, 3) := by decide +kernel
theorem dX8_count_13 : decode cX8_count 13 = .ok (.ifCond .eq 13, 3) := by decide +kernel
theorem dX8_count_16 : decode cX8_count 16 = .ok (.aload_n 0, 1) := by decide +kernel
theorem dX8_count_17 : decode cX8_count 17 = .ok (.getfield 9, 3) := by decide +kernel
theorem dX8_count_20 : decode cX8_count 20 = .ok (.iload_n 1, 1) := by decide +kernel
theorem dX8_count_21 : decode cX8_count 21 = .ok (.bipush 20, 2) := by decide +kernel
theorem dX8_count_23 : decode cX8_count 23 = .ok (.isub, 1) := by decide +kernel
theorem dX8_count_24 : decode cX8_count 24 = .ok (.iaload, 1) := by decide +kernel
theorem dX8_count_25 : decode cX8_count 25 = .ok (.ireturn, 1) := by decide +kernel
theorem dX8_count_26 : decode cX8_count 26 = .ok (.iload_n 1, 1) := by decide +kernel
theorem dX8_count_27 : decode cX8_count 27 = .ok (.tableswitch 138 0 11 #[61, 66, 71, 76, 85, 93, 101, 109, 118, 123, 128, 133], 61) := by decide +kernel
theorem dX8_count_88 : decode cX8_count 88 = .ok (.aload_n 0, 1) := by decide +kernel
theorem dX8_count_89 : decode cX8_count 89 = .ok (.getfield 13, 3) := by decide +kernel
theorem dX8_count_92 : decode cX8_count 92 = .ok (.ireturn, 1) := by decide +kernel
theorem dX8_count_93 : decode cX8_count 93 = .ok (.aload_n 0, 1) := by decide +kernel
theorem dX8_count_94 : decode cX8_count 94 = .ok (.getfield 17, 3) := by decide +kernel
theorem dX8_count_97 : decode cX8_count 97 = .ok (.ireturn, 1) := by decide +kernel
theorem dX8_count_98 : decode cX8_count 98 = .ok (.aload_n 0, 1) := by decide +kernel
theorem dX8_count_99 : decode cX8_count 99 = .ok (.getfield 120, 3) := by decide +kernel
theorem dX8_count_102 : decode cX8_count 102 = .ok (.ireturn, 1) := by decide +kernel
theorem dX8_count_103 : decode cX8_count 103 = .ok (.aload_n 0, 1) := by decide +kernel
theorem dX8_count_104 : decode cX8_count 104 = .ok (.aload_n 0, 1) := by decide +kernel
theorem dX8_count_105 : decode cX8_count 105 = .ok (.getfield 9, 3) := by decide +kernel
theorem dX8_count_108 : decode cX8_count 108 = .ok (.invokevirtual 261, 3) := by decide +kernel
theorem dX8_count_111 : decode cX8_count 111 = .ok (.ireturn, 1) := by decide +kernel
theorem dX8_count_112 : decode cX8_count 112 = .ok (.aload_n 0, 1) := by decide +kernel
theorem dX8_count_113 : decode cX8_count 113 = .ok (.getfield 9, 3) := by decide +kernel
theorem dX8_count_116 : decode cX8_count 116 = .ok (.bipush 24, 2) := by decide +kernel
theorem dX8_count_118 : decode cX8_count 118 = .ok (.iaload, 1) := by decide +kernel
theorem dX8_count_119 : decode cX8_count 119 = .ok (.ireturn, 1) := by decide +kernel
theorem dX8_count_120 : decode cX8_count 120 = .ok (.aload_n 0, 1) := by decide +kernel
theorem dX8_count_121 : decode cX8_count 121 = .ok (.getfield 9, 3) := by decide +kernel
theorem dX8_count_124 : decode cX8_count 124 = .ok (.bipush 25, 2) := by decide +kernel
theorem dX8_count_126 : decode cX8_count 126 = .ok (.iaload, 1) := by decide +kernel
theorem dX8_count_127 : decode cX8_count 127 = .ok (.ireturn, 1) := by decide +kernel
theorem dX8_count_128 : decode cX8_count 128 = .ok (.aload_n 0, 1) := by decide +kernel
theorem dX8_count_129 : decode cX8_count 129 = .ok (.getfield 9, 3) := by decide +kernel
theorem dX8_count_132 : decode cX8_count 132 = .ok (.bipush 26, 2) := by decide +kernel
theorem dX8_count_134 : decode cX8_count 134 = .ok (.iaload, 1) := by decide +kernel
theorem dX8_count_135 : decode cX8_count 135 = .ok (.ireturn, 1) := by decide +kernel
theorem dX8_count_136 : decode cX8_count 136 = .ok (.aload_n 0, 1) := by decide +kernel
theorem dX8_count_137 : decode cX8_count 137 = .ok (.aload_n 0, 1) := by decide +kernel
theorem dX8_count_138 : decode cX8_count 138 = .ok (.getfield 9, 3) := by decide +kernel
theorem dX8_count_141 : decode cX8_count 141 = .ok (.invokevirtual 288, 3) := by decide +kernel
theorem dX8_count_144 : decode cX8_count 144 = .ok (.ireturn, 1) := by decide +kernel
theorem dX8_count_145 : decode cX8_count 145 = .ok (.aload_n 0, 1) := by decide +kernel
theorem dX8_count_146 : decode cX8_count 146 = .ok (.getfield 362, 3) := by decide +kernel
theorem dX8_count_149 : decode cX8_count 149 = .ok (.ireturn, 1) := by decide +kernel
theorem dX8_count_150 : decode cX8_count 150 = .ok (.aload_n 0, 1) := by decide +kernel
theorem dX8_count_151 : decode cX8_count 151 = .ok (.getfield 182, 3) := by decide +kernel
theorem dX8_count_154 : decode cX8_count 154 = .ok (.ireturn, 1) := by decide +kernel
theorem dX8_count_155 : decode cX8_count 155 = .ok (.aload_n 0, 1) := by decide +kernel
theorem dX8_count_156 : decode cX8_count 156 = .ok (.getfield 117, 3) := by decide +kernel
theorem dX8_count_159 : decode cX8_count 159 = .ok (.ireturn, 1) := by decide +kernel
theorem dX8_count_160 : decode cX8_count 160 = .ok (.aload_n 0, 1) := by decide +kernel
theorem dX8_count_161 : decode cX8_count 161 = .ok (.getfield 131, 3) := by decide +kernel
theorem dX8_count_164 : decode cX8_count 164 = .ok (.ireturn, 1) := by decide +kernel
theorem dX8_count_165 : decode cX8_count 165 = .ok (.bipush (-100), 2) := by decide +kernel
theorem dX8_count_167 : decode cX8_count 167 = .ok (.ireturn, 1) := by decide +kernel
theorem dX8_countWays_0 : decode cX8_countWays 0 = .ok (.iconst 0, 1) := by decide +kernel
theorem dX8_countWays_1 : decode cX8_countWays 1 = .ok (.istore_n 1, 1) := by decide +kernel
theorem dX8_countWays_2 : decode cX8_countWays 2 = .ok (.iload_n 1, 1) := by decide +kernel
theorem dX8_countWays_3 : decode cX8_countWays 3 = .ok (.aload_n 0, 1) := by decide +kernel
theorem dX8_countWays_4 : decode cX8_countWays 4 = .ok (.invokevirtual 307, 3) := by decide +kernel
theorem dX8_countWays_7 : decode cX8_countWays 7 = .ok (.if_icmp .gt 32, 3) := by decide +kernel
theorem dX8_countWays_10 : decode cX8_countWays 10 = .ok (.aload_n 0, 1) := by decide +kernel
theorem dX8_countWays_11 : decode cX8_countWays 11 = .ok (.getfield 85, 3) := by decide +kernel
theorem dX8_countWays_14 : decode cX8_countWays 14 = .ok (.aload_n 0, 1) := by decide +kernel
theorem dX8_countWays_15 : decode cX8_countWays 15 = .ok (.getfield 120, 3) := by decide +kernel
theorem dX8_countWays_18 : decode cX8_countWays 18 = .ok (.bipush 8, 2) := by decide +kernel
theorem dX8_countWays_20 : decode cX8_countWays 20 = .ok (.ishl, 1) := by decide +kernel
theorem dX8_countWays_21 : decode cX8_countWays 21 = .ok (.iload_n 1, 1) := by decide +kernel
theorem dX8_countWays_22 : decode cX8_countWays 22 = .ok (.ior, 1) := by decide +kernel
theorem dX8_countWays_23 : decode cX8_countWays 23 = .ok (.iload_n 1, 1) := by decide +kernel
theorem dX8_countWays_24 : decode cX8_countWays 24 = .ok (.ifCond .ne 7, 3) := by decide +kernel
theorem dX8_countWays_27 : decode cX8_countWays 27 = .ok (.iconst 1, 1) := by decide +kernel
theorem dX8_countWays_28 : decode cX8_countWays 28 = .ok (.goto 4, 3) := by decide +kernel
theorem dX8_countWays_31 : decode cX8_countWays 31 = .ok (.iconst 0, 1) := by decide +kernel
theorem dX8_countWays_32 : decode cX8_countWays 32 = .ok (.iastore, 1) := by decide +kernel
theorem dX8_countWays_33 : decode cX8_countWays 33 = .ok (.iinc 1 1, 3) := by decide +kernel
theorem dX8_countWays_36 : decode cX8_countWays 36 = .ok (.goto (-34), 3) := by decide +kernel
theorem dX8_countWays_39 : decode cX8_countWays 39 = .ok (.aload_n 0, 1) := by decide +kernel
theorem dX8_countWays_40 : decode cX8_countWays 40 = .ok (.getfield 120, 3) := by decide +kernel
theorem dX8_countWays_43 : decode cX8_countWays 43 = .ok (.iconst 1, 1) := by decide +kernel
theorem dX8_countWays_44 : decode cX8_countWays 44 = .ok (.isub, 1) := by decide +kernel
theorem dX8_countWays_45 : decode cX8_countWays 45 = .ok (.istore_n 1, 1) := by decide +kernel
theorem dX8_countWays_46 : decode cX8_countWays 46 = .ok (.iload_n 1, 1) := by decide +kernel
theorem dX8_countWays_47 : decode cX8_countWays 47 = .ok (.ifCond .lt 150, 3) := by decide +kernel
theorem dX8_countWays_50 : decode cX8_countWays 50 = .ok (.iconst 0, 1) := by decide +kernel
theorem dX8_countWays_51 : decode cX8_countWays 51 = .ok (.istore_n 2, 1) := by decide +kernel
theorem dX8_countWays_52 : decode cX8_countWays 52 = .ok (.iload_n 2, 1) := by decide +kernel
theorem dX8_countWays_53 : decode cX8_countWays 53 = .ok (.aload_n 0, 1) := by decide +kernel
theorem dX8_countWays_54 : decode cX8_countWays 54 = .ok (.invokevirtual 307, 3) := by decide +kernel
theorem dX8_countWays_57 : decode cX8_countWays 57 = .ok (.if_icmp .gt 21, 3) := by decide +kernel
theorem dX8_countWays_60 : decode cX8_countWays 60 = .ok (.aload_n 0, 1) := by decide +kernel
theorem dX8_countWays_61 : decode cX8_countWays 61 = .ok (.getfield 85, 3) := by decide +kernel
theorem dX8_countWays_64 : decode cX8_countWays 64 = .ok (.iload_n 1, 1) := by decide +kernel
theorem dX8_countWays_65 : decode cX8_countWays 65 = .ok (.bipush 8, 2) := by decide +kernel
theorem dX8_countWays_67 : decode cX8_countWays 67 = .ok (.ishl, 1) := by decide +kernel
theorem dX8_countWays_68 : decode cX8_countWays 68 = .ok (.iload_n 2, 1) := by decide +kernel
theorem dX8_countWays_69 : decode cX8_countWays 69 = .ok (.ior, 1) := by decide +kernel
theorem dX8_countWays_70 : decode cX8_countWays 70 = .ok (.iconst 0, 1) := by decide +kernel
theorem dX8_countWays_71 : decode cX8_countWays 71 = .ok (.iastore, 1) := by decide +kernel
theorem dX8_countWays_72 : decode cX8_countWays 72 = .ok (.iinc 2 1, 3) := by decide +kernel
theorem dX8_countWays_75 : decode cX8_countWays 75 = .ok (.goto (-23), 3) := by decide +kernel
theorem dX8_countWays_78 : decode cX8_countWays 78 = .ok (.aload_n 0, 1) := by decide +kernel
theorem dX8_countWays_79 : decode cX8_countWays 79 = .ok (.getfield 67, 3) := by decide +kernel
theorem dX8_countWays_82 : decode cX8_countWays 82 = .ok (.iload_n 1, 1) := by decide +kernel
theorem dX8_countWays_83 : decode cX8_countWays 83 = .ok (.iaload, 1) := by decide +kernel
theorem dX8_countWays_84 : decode cX8_countWays 84 = .ok (.istore_n 2, 1) := by decide +kernel
theorem dX8_countWays_85 : decode cX8_countWays 85 = .ok (.iload_n 2, 1) := by decide +kernel
theorem dX8_countWays_86 : decode cX8_countWays 86 = .ok (.ifCond .lt 105, 3) := by decide +kernel
theorem dX8_countWays_89 : decode cX8_countWays 89 = .ok (.aload_n 0, 1) := by decide +kernel
theorem dX8_countWays_90 : decode cX8_countWays 90 = .ok (.iload_n 1, 1) := by decide +kernel
theorem dX8_countWays_91 : decode cX8_countWays 91 = .ok (.iload_n 2, 1) := by decide +kernel
theorem dX8_countWays_92 : decode cX8_countWays 92 = .ok (.invokevirtual 313, 3) := by decide +kernel
theorem dX8_countWays_95 : decode cX8_countWays 95 = .ok (.ifCond .ne 6, 3) := by decide +kernel
theorem dX8_countWays_98 : decode cX8_countWays 98 = .ok (.goto 71, 3) := by decide +kernel
theorem dX8_countWays_101 : decode cX8_countWays 101 = .ok (.aload_n 0, 1) := by decide +kernel
theorem dX8_countWays_102 : decode cX8_countWays 102 = .ok (.invokevirtual 307, 3) := by decide +kernel
theorem dX8_countWays_105 : decode cX8_countWays 105 = .ok (.iload_n 2, 1) := by decide +kernel
theorem dX8_countWays_106 : decode cX8_countWays 106 = .ok (.iconst (-1), 1) := by decide +kernel
theorem dX8_countWays_107 : decode cX8_countWays 107 = .ok (.ixor, 1) := by decide +kernel
theorem dX8_countWays_108 : decode cX8_countWays 108 = .ok (.iand, 1) := by decide +kernel
theorem dX8_countWays_109 : decode cX8_countWays 109 = .ok (.istore_n 3, 1) := by decide +kernel
theorem dX8_countWays_110 : decode cX8_countWays 110 = .ok (.iload_n 3, 1) := by decide +kernel
theorem dX8_countWays_111 : decode cX8_countWays 111 = .ok (.istore 4, 2) := by decide +kernel
theorem dX8_countWays_113 : decode cX8_countWays 113 = .ok (.iload 4, 2) := by decide +kernel
theorem dX8_countWays_115 : decode cX8_countWays 115 = .ok (.ifCond .lt 54, 3) := by decide +kernel
theorem dX8_countWays_118 : decode cX8_countWays 118 = .ok (.aload_n 0, 1) := by decide +kernel
theorem dX8_countWays_119 : decode cX8_countWays 119 = .ok (.getfield 85, 3) := by decide +kernel
theorem dX8_countWays_122 : decode cX8_countWays 122 = .ok (.iload_n 1, 1) := by decide +kernel
theorem dX8_countWays_123 : decode cX8_countWays 123 = .ok (.bipush 8, 2) := by decide +kernel
theorem dX8_countWays_125 : decode cX8_countWays 125 = .ok (.ishl, 1) := by decide +kernel
theorem dX8_countWays_126 : decode cX8_countWays 126 = .ok (.iload 4, 2) := by decide +kernel
theorem dX8_countWays_128 : decode cX8_countWays 128 = .ok (.ior, 1) := by decide +kernel
theorem dX8_countWays_129 : decode cX8_countWays 129 = .ok (.iload_n 2, 1) := by decide +kernel
theorem dX8_countWays_130 : decode cX8_countWays 130 = .ok (.ior, 1) := by decide +kernel
theorem dX8_countWays_131 : decode cX8_countWays 131 = .ok (.dup2, 1) := by decide +kernel
theorem dX8_countWays_132 : decode cX8_countWays 132 = .ok (.iaload, 1) := by decide +kernel
theorem dX8_countWays_133 : decode cX8_countWays 133 = .ok (.aload_n 0, 1) := by decide +kernel
theorem dX8_countWays_134 : decode cX8_countWays 134 = .ok (.getfield 85, 3) := by decide +kernel
theorem dX8_countWays_137 : decode cX8_countWays 137 = .ok (.iload_n 1, 1) := by decide +kernel
theorem dX8_countWays_138 : decode cX8_countWays 138 = .ok (.iconst 1, 1) := by decide +kernel
theorem dX8_countWays_139 : decode cX8_countWays 139 = .ok (.iadd, 1) := by decide +kernel
theorem dX8_countWays_140 : decode cX8_countWays 140 = .ok (.bipush 8, 2) := by decide +kernel
theorem dX8_countWays_142 : decode cX8_countWays 142 = .ok (.ishl, 1) := by decide +kernel
theorem dX8_countWays_143 : decode cX8_countWays 143 = .ok (.iload 4, 2) := by decide +kernel
theorem dX8_countWays_145 : decode cX8_countWays 145 = .ok (.ior, 1) := by decide +kernel
theorem dX8_countWays_146 : decode cX8_countWays 146 = .ok (.iaload, 1) := by decide +kernel
theorem dX8_countWays_147 : decode cX8_countWays 147 = .ok (.iadd, 1) := by decide +kernel
theorem dX8_countWays_148 : decode cX8_countWays 148 = .ok (.iastore, 1) := by decide +kernel
theorem dX8_countWays_149 : decode cX8_countWays 149 = .ok (.iload 4, 2) := by decide +kernel
theorem dX8_countWays_151 : decode cX8_countWays 151 = .ok (.ifCond .ne 7, 3) := by decide +kernel
theorem dX8_countWays_154 : decode cX8_countWays 154 = .ok (.iconst (-1), 1) := by decide +kernel
theorem dX8_countWays_155 : decode cX8_countWays 155 = .ok (.goto 9, 3) := by decide +kernel
theorem dX8_countWays_158 : decode cX8_countWays 158 = .ok (.iload 4, 2) := by decide +kernel
theorem dX8_countWays_160 : decode cX8_countWays 160 = .ok (.iconst 1, 1) := by decide +kernel
theorem dX8_countWays_161 : decode cX8_countWays 161 = .ok (.isub, 1) := by decide +kernel
theorem dX8_countWays_162 : decode cX8_countWays 162 = .ok (.iload_n 3, 1) := by decide +kernel
theorem dX8_countWays_163 : decode cX8_countWays 163 = .ok (.iand, 1) := by decide +kernel
theorem dX8_countWays_164 : decode cX8_countWays 164 = .ok (.istore 4, 2) := by decide +kernel
theorem dX8_countWays_166 : decode cX8_countWays 166 = .ok (.goto (-53), 3) := by decide +kernel
theorem dX8_countWays_169 : decode cX8_countWays 169 = .ok (.iload_n 2, 1) := by decide +kernel
theorem dX8_countWays_170 : decode cX8_countWays 170 = .ok (.ifCond .ne 7, 3) := by decide +kernel
theorem dX8_countWays_173 : decode cX8_countWays 173 = .ok (.iconst (-1), 1) := by decide +kernel
theorem dX8_countWays_174 : decode cX8_countWays 174 = .ok (.goto 13, 3) := by decide +kernel
theorem dX8_countWays_177 : decode cX8_countWays 177 = .ok (.iload_n 2, 1) := by decide +kernel
theorem dX8_countWays_178 : decode cX8_countWays 178 = .ok (.iconst 1, 1) := by decide +kernel
theorem dX8_countWays_179 : decode cX8_countWays 179 = .ok (.isub, 1) := by decide +kernel
theorem dX8_countWays_180 : decode cX8_countWays 180 = .ok (.aload_n 0, 1) := by decide +kernel
theorem dX8_countWays_181 : decode cX8_countWays 181 = .ok (.getfield 67, 3) := by decide +kernel
theorem dX8_countWays_184 : decode cX8_countWays 184 = .ok (.iload_n 1, 1) := by decide +kernel
theorem dX8_countWays_185 : decode cX8_countWays 185 = .ok (.iaload, 1) := by decide +kernel
theorem dX8_countWays_186 : decode cX8_countWays 186 = .ok (.iand, 1) := by decide +kernel
theorem dX8_countWays_187 : decode cX8_countWays 187 = .ok (.istore_n 2, 1) := by decide +kernel
theorem dX8_countWays_188 : decode cX8_countWays 188 = .ok (.goto (-103), 3) := by decide +kernel
theorem dX8_countWays_191 : decode cX8_countWays 191 = .ok (.iinc 1 (-1), 3) := by decide +kernel
theorem dX8_countWays_194 : decode cX8_countWays 194 = .ok (.goto (-148), 3) := by decide +kernel
theorem dX8_countWays_197 : decode cX8_countWays 197 = .ok (.aload_n 0, 1) := by decide +kernel
theorem dX8_countWays_198 : decode cX8_countWays 198 = .ok (.getfield 85, 3) := by decide +kernel
theorem dX8_countWays_201 : decode cX8_countWays 201 = .ok (.aload_n 0, 1) := by decide +kernel
theorem dX8_countWays_202 : decode cX8_countWays 202 = .ok (.invokevirtual 307, 3) := by decide +kernel
theorem dX8_countWays_205 : decode cX8_countWays 205 = .ok (.iaload, 1) := by decide +kernel
theorem dX8_countWays_206 : decode cX8_countWays 206 = .ok (.ireturn, 1) := by decide +kernel
theorem dX8_draw_0 : decode cX8_draw 0 = .ok (.aload_n 0, 1) := by decide +kernel
theorem dX8_draw_1 : decode cX8_draw 1 = .ok (.aload_n 0, 1) := by decide +kernel
theorem dX8_draw_2 : decode cX8_draw 2 = .ok (.getfield 408, 3) := by decide +kernel
theorem dX8_draw_5 : decode cX8_draw 5 = .ok (.ldc_w 411, 3) := by decide +kernel
theorem dX8_draw_8 : decode cX8_draw 8 = .ok (.imul, 1) := by decide +kernel
theorem dX8_draw_9 : decode cX8_draw 9 = .ok (.sipush 12345, 3) := by decide +kernel
theorem dX8_draw_12 : decode cX8_draw 12 = .ok (.iadd, 1) := by decide +kernel
theorem dX8_draw_13 : decode cX8_draw 13 = .ok (.putfield 408, 3) := by decide +kernel
theorem dX8_draw_16 : decode cX8_draw 16 = .ok (.aload_n 0, 1) := by decide +kernel
theorem dX8_draw_17 : decode cX8_draw 17 = .ok (.getfield 408, 3) := by decide +kernel
theorem dX8_draw_20 : decode cX8_draw 20 = .ok (.bipush 16, 2) := by decide +kernel
theorem dX8_draw_22 : decode cX8_draw 22 = .ok (.iushr, 1) := by decide +kernel
theorem dX8_draw_23 : decode cX8_draw 23 = .ok (.iload_n 1, 1) := by decide +kernel
theorem dX8_draw_24 : decode cX8_draw 24 = .ok (.irem, 1) := by decide +kernel
theorem dX8_draw_25 : decode cX8_draw 25 = .ok (.ireturn, 1) := by decide +kernel
theorem dX8_easiest_0 : decode cX8_easiest 0 = .ok (.aload_n 0, 1) := by decide +kernel
theorem dX8_easiest_1 : decode cX8_easiest 1 = .ok (.iconst 0, 1) := by decide +kernel
theorem dX8_easiest_2 : decode cX8_easiest 2 = .ok (.putfield 114, 3) := by decide +kernel
theorem dX8_easiest_5 : decode cX8_easiest 5 = .ok (.aload_n 0, 1) := by decide +kernel
theorem dX8_easiest_6 : decode cX8_easiest 6 = .ok (.iconst (-1), 1) := by decide +kernel
theorem dX8_easiest_7 : decode cX8_easiest 7 = .ok (.invokevirtual 338, 3) := by decide +kernel
theorem dX8_easiest_10 : decode cX8_easiest 10 = .ok (.istore_n 1, 1) := by decide +kernel
theorem dX8_easiest_11 : decode cX8_easiest 11 = .ok (.iload_n 1, 1) := by decide +kernel
theorem dX8_easiest_12 : decode cX8_easiest 12 = .ok (.ldc 88, 2) := by decide +kernel
theorem dX8_easiest_14 : decode cX8_easiest 14 = .ok (.if_icmp .ne 6, 3) := by decide +kernel
theorem dX8_easiest_17 : decode cX8_easiest 17 = .ok (.bipush (-2), 2) := by decide +kernel
theorem dX8_easiest_19 : decode cX8_easiest 19 = .ok (.ireturn, 1) := by decide +kernel
theorem dX8_easiest_20 : decode cX8_easiest 20 = .ok (.aload_n 0, 1) := by decide +kernel
theorem dX8_easiest_21 : decode cX8_easiest 21 = .ok (.iconst 0, 1) := by decide +kernel
theorem dX8_easiest_22 : decode cX8_easiest 22 = .ok (.iload_n 1, 1) := by decide +kernel
theorem dX8_easiest_23 : decode cX8_easiest 23 = .ok (.invokevirtual 341, 3) := by decide +kernel
theorem dX8_easiest_26 : decode cX8_easiest 26 = .ok (.aload_n 0, 1) := by decide +kernel
theorem dX8_easiest_27 : decode cX8_easiest 27 = .ok (.invokevirtual 344, 3) := by decide +kernel
theorem dX8_easiest_30 : decode cX8_easiest 30 = .ok (.iload_n 1, 1) := by decide +kernel
theorem dX8_easiest_31 : decode cX8_easiest 31 = .ok (.ireturn, 1) := by decide +kernel
theorem dX8_easiestBut_0 : decode cX8_easiestBut 0 = .ok (.aload_n 0, 1) := by decide +kernel
theorem dX8_easiestBut_1 : decode cX8_easiestBut 1 = .ok (.iload_n 1, 1) := by decide +kernel
theorem dX8_easiestBut_2 : decode cX8_easiestBut 2 = .ok (.invokevirtual 335, 3) := by decide +kernel
theorem dX8_easiestBut_5 : decode cX8_easiestBut 5 = .ok (.aload_n 0, 1) := by decide +kernel
theorem dX8_easiestBut_6 : decode cX8_easiestBut 6 = .ok (.iconst 0, 1) := by decide +kernel
theorem dX8_easiestBut_7 : decode cX8_easiestBut 7 = .ok (.invokevirtual 329, 3) := by decide +kernel
theorem dX8_easiestBut_10 : decode cX8_easiestBut 10 = .ok (.ireturn, 1) := by decide +kernel
theorem dX8_end_0 : decode cX8_end 0 = .ok (.aload_n 0, 1) := by decide +kernel
theorem dX8_end_1 : decode cX8_end 1 = .ok (.iconst 0, 1) := by decide +kernel
theorem dX8_end_2 : decode cX8_end 2 = .ok (.putfield 114, 3) := by decide +kernel
theorem dX8_end_5 : decode cX8_end 5 = .ok (.iload_n 1, 1) := by decide +kernel
theorem dX8_end_6 : decode cX8_end 6 = .ok (.iconst 0, 1) := by decide +kernel
theorem dX8_end_7 : decode cX8_end 7 = .ok (.aload_n 0, 1) := by decide +kernel
theorem dX8_end_8 : decode cX8_end 8 = .ok (.getfield 131, 3) := by decide +kernel
theorem dX8_end_11 : decode cX8_end 11 = .ok (.invokestatic 123, 3) := by decide +kernel
theorem dX8_end_14 : decode cX8_end 14 = .ok (.ifCond .ne 5, 3) := by decide +kernel
theorem dX8_end_17 : decode cX8_end 17 = .ok (.iconst 0, 1) := by decide +kernel
theorem dX8_end_18 : decode cX8_end 18 = .ok (.ireturn, 1) := by decide +kernel
theorem dX8_end_19 : decode cX8_end 19 = .ok (.aload_n 0, 1) := by decide +kernel
theorem dX8_end_20 : decode cX8_end 20 = .ok (.iload_n 1, 1) := by decide +kernel
theorem dX8_end_21 : decode cX8_end 21 = .ok (.putfield 131, 3) := by decide +kernel
theorem dX8_end_24 : decode cX8_end 24 = .ok (.iconst 1, 1) := by decide +kernel
theorem dX8_end_25 : decode cX8_end 25 = .ok (.ireturn, 1) := by decide +kernel
theorem dX8_fairest_0 : decode cX8_fairest 0 = .ok (.aload_n 0, 1) := by decide +kernel
theorem dX8_fairest_1 : decode cX8_fairest 1 = .ok (.iconst 0, 1) := by decide +kernel
theorem dX8_fairest_2 : decode cX8_fairest 2 = .ok (.putfield 114, 3) := by decide +kernel
theorem dX8_fairest_5 : decode cX8_fairest 5 = .ok (.aload_n 0, 1) := by decide +kernel
theorem dX8_fairest_6 : decode cX8_fairest 6 = .ok (.iconst (-1), 1) := by decide +kernel
theorem dX8_fairest_7 : decode cX8_fairest 7 = .ok (.invokevirtual 335, 3) := by decide +kernel
theorem dX8_fairest_10 : decode cX8_fairest 10 = .ok (.iconst (-1), 1) := by decide +kernel
theorem dX8_fairest_11 : decode cX8_fairest 11 = .ok (.istore_n 1, 1) := by decide +kernel
theorem dX8_fairest_12 : decode cX8_fairest 12 = .ok (.sipush 3997, 3) := by decide +kernel
theorem dX8_fairest_15 : decode cX8_fairest 15 = .ok (.istore_n 2, 1) := by decide +kernel
theorem dX8_fairest_16 : decode cX8_fairest 16 = .ok (.iload_n 2, 1) := by decide +kernel
theorem dX8_fairest_17 : decode cX8_fairest 17 = .ok (.iload_n 1, 1) := by decide +kernel
theorem dX8_fairest_18 : decode cX8_fairest 18 = .ok (.isub, 1) := by decide +kernel
theorem dX8_fairest_19 : decode cX8_fairest 19 = .ok (.iconst 1, 1) := by decide +kernel
theorem dX8_fairest_20 : decode cX8_fairest 20 = .ok (.if_icmp .le 38, 3) := by decide +kernel
theorem dX8_fairest_23 : decode cX8_fairest 23 = .ok (.aload_n 0, 1) := by decide +kernel
theorem dX8_fairest_24 : decode cX8_fairest 24 = .ok (.iload_n 1, 1) := by decide +kernel
theorem dX8_fairest_25 : decode cX8_fairest 25 = .ok (.iload_n 2, 1) := by decide +kernel
theorem dX8_fairest_26 : decode cX8_fairest 26 = .ok (.iadd, 1) := by decide +kernel
theorem dX8_fairest_27 : decode cX8_fairest 27 = .ok (.iconst 2, 1) := by decide +kernel
theorem dX8_fairest_28 : decode cX8_fairest 28 = .ok (.idiv, 1) := by decide +kernel
theorem dX8_fairest_29 : decode cX8_fairest 29 = .ok (.putfield 89, 3) := by decide +kernel
theorem dX8_fairest_32 : decode cX8_fairest 32 = .ok (.aload_n 0, 1) := by decide +kernel
theorem dX8_fairest_33 : decode cX8_fairest 33 = .ok (.iconst 0, 1) := by decide +kernel
theorem dX8_fairest_34 : decode cX8_fairest 34 = .ok (.invokevirtual 329, 3) := by decide +kernel
theorem dX8_fairest_37 : decode cX8_fairest 37 = .ok (.ldc 88, 2) := by decide +kernel
theorem dX8_fairest_39 : decode cX8_fairest 39 = .ok (.if_icmp .ge 11, 3) := by decide +kernel
theorem dX8_fairest_42 : decode cX8_fairest 42 = .ok (.aload_n 0, 1) := by decide +kernel
theorem dX8_fairest_43 : decode cX8_fairest 43 = .ok (.getfield 89, 3) := by decide +kernel
theorem dX8_fairest_46 : decode cX8_fairest 46 = .ok (.istore_n 2, 1) := by decide +kernel
theorem dX8_fairest_47 : decode cX8_fairest 47 = .ok (.goto (-31), 3) := by decide +kernel
theorem dX8_fairest_50 : decode cX8_fairest 50 = .ok (.aload_n 0, 1) := by decide +kernel
theorem dX8_fairest_51 : decode cX8_fairest 51 = .ok (.getfield 89, 3) := by decide +kernel
theorem dX8_fairest_54 : decode cX8_fairest 54 = .ok (.istore_n 1, 1) := by decide +kernel
theorem dX8_fairest_55 : decode cX8_fairest 55 = .ok (.goto (-39), 3) := by decide +kernel
theorem dX8_fairest_58 : decode cX8_fairest 58 = .ok (.aload_n 0, 1) := by decide +kernel
theorem dX8_fairest_59 : decode cX8_fairest 59 = .ok (.iload_n 2, 1) := by decide +kernel
theorem dX8_fairest_60 : decode cX8_fairest 60 = .ok (.putfield 89, 3) := by decide +kernel
theorem dX8_fairest_63 : decode cX8_fairest 63 = .ok (.aload_n 0, 1) := by decide +kernel
theorem dX8_fairest_64 : decode cX8_fairest 64 = .ok (.iconst 0, 1) := by decide +kernel
theorem dX8_fairest_65 : decode cX8_fairest 65 = .ok (.invokevirtual 329, 3) := by decide +kernel
theorem dX8_fairest_68 : decode cX8_fairest 68 = .ok (.istore_n 3, 1) := by decide +kernel
theorem dX8_fairest_69 : decode cX8_fairest 69 = .ok (.aload_n 0, 1) := by decide +kernel
theorem dX8_fairest_70 : decode cX8_fairest 70 = .ok (.ldc 88, 2) := by decide +kernel
theorem dX8_fairest_72 : decode cX8_fairest 72 = .ok (.putfield 89, 3) := by decide +kernel
theorem dX8_fairest_75 : decode cX8_fairest 75 = .ok (.iload_n 3, 1) := by decide +kernel
theorem dX8_fairest_76 : decode cX8_fairest 76 = .ok (.ldc 88, 2) := by decide +kernel
theorem dX8_fairest_78 : decode cX8_fairest 78 = .ok (.if_icmp .ne 6, 3) := by decide +kernel
theorem dX8_fairest_81 : decode cX8_fairest 81 = .ok (.bipush (-2), 2) := by decide +kernel
theorem dX8_fairest_83 : decode cX8_fairest 83 = .ok (.ireturn, 1) := by decide +kernel
theorem dX8_fairest_84 : decode cX8_fairest 84 = .ok (.aload_n 0, 1) := by decide +kernel
theorem dX8_fairest_85 : decode cX8_fairest 85 = .ok (.iconst 0, 1) := by decide +kernel
theorem dX8_fairest_86 : decode cX8_fairest 86 = .ok (.putfield 117, 3) := by decide +kernel
theorem dX8_fairest_89 : decode cX8_fairest 89 = .ok (.aload_n 0, 1) := by decide +kernel
theorem dX8_fairest_90 : decode cX8_fairest 90 = .ok (.iload_n 3, 1) := by decide +kernel
theorem dX8_fairest_91 : decode cX8_fairest 91 = .ok (.i2l, 1) := by decide +kernel
theorem dX8_fairest_92 : decode cX8_fairest 92 = .ok (.invokevirtual 284, 3) := by decide +kernel
theorem dX8_fairest_95 : decode cX8_fairest 95 = .ok (.iload_n 2, 1) := by decide +kernel
theorem dX8_fairest_96 : decode cX8_fairest 96 = .ok (.ireturn, 1) := by decide +kernel
theorem dX8_fault_0 : decode cX8_fault 0 = .ok (.aload_n 0, 1) := by decide +kernel
theorem dX8_fault_1 : decode cX8_fault 1 = .ok (.invokevirtual 153, 3) := by decide +kernel
theorem dX8_fault_4 : decode cX8_fault 4 = .ok (.ifCond .eq 8, 3) := by decide +kernel
theorem dX8_fault_7 : decode cX8_fault 7 = .ok (.aload_n 0, 1) := by decide +kernel
theorem dX8_fault_8 : decode cX8_fault 8 = .ok (.iload_n 1, 1) := by decide +kernel
theorem dX8_fault_9 : decode cX8_fault 9 = .ok (.putfield 146, 3) := by decide +kernel
theorem dX8_fault_12 : decode cX8_fault 12 = .ok (.return_, 1) := by decide +kernel
theorem dX8_fewest_0 : decode cX8_fewest 0 = .ok (.aload_n 0, 1) := by decide +kernel
theorem dX8_fewest_1 : decode cX8_fewest 1 = .ok (.iconst 0, 1) := by decide +kernel
theorem dX8_fewest_2 : decode cX8_fewest 2 = .ok (.putfield 114, 3) := by decide +kernel
theorem dX8_fewest_5 : decode cX8_fewest 5 = .ok (.aload_n 0, 1) := by decide +kernel
theorem dX8_fewest_6 : decode cX8_fewest 6 = .ok (.invokevirtual 347, 3) := by decide +kernel
theorem dX8_fewest_9 : decode cX8_fewest 9 = .ok (.iconst (-1), 1) := by decide +kernel
theorem dX8_fewest_10 : decode cX8_fewest 10 = .ok (.istore_n 1, 1) := by decide +kernel
theorem dX8_fewest_11 : decode cX8_fewest 11 = .ok (.iconst 0, 1) := by decide +kernel
theorem dX8_fewest_12 : decode cX8_fewest 12 = .ok (.istore_n 2, 1) := by decide +kernel
theorem dX8_fewest_13 : decode cX8_fewest 13 = .ok (.iload_n 2, 1) := by decide +kernel
theorem dX8_fewest_14 : decode cX8_fewest 14 = .ok (.iconst 1, 1) := by decide +kernel
theorem dX8_fewest_15 : decode cX8_fewest 15 = .ok (.aload_n 0, 1) := by decide +kernel
theorem dX8_fewest_16 : decode cX8_fewest 16 = .ok (.getfield 120, 3) := by decide +kernel
theorem dX8_fewest_19 : decode cX8_fewest 19 = .ok (.ishl, 1) := by decide +kernel
theorem dX8_fewest_20 : decode cX8_fewest 20 = .ok (.if_icmp .ge 36, 3) := by decide +kernel
theorem dX8_fewest_23 : decode cX8_fewest 23 = .ok (.aload_n 0, 1) := by decide +kernel
theorem dX8_fewest_24 : decode cX8_fewest 24 = .ok (.getfield 95, 3) := by decide +kernel
theorem dX8_fewest_27 : decode cX8_fewest 27 = .ok (.iload_n 2, 1) := by decide +kernel
theorem dX8_fewest_28 : decode cX8_fewest 28 = .ok (.baload, 1) := by decide +kernel
theorem dX8_fewest_29 : decode cX8_fewest 29 = .ok (.ifCond .eq 21, 3) := by decide +kernel
theorem dX8_fewest_32 : decode cX8_fewest 32 = .ok (.iload_n 1, 1) := by decide +kernel
theorem dX8_fewest_33 : decode cX8_fewest 33 = .ok (.iconst (-1), 1) := by decide +kernel
theorem dX8_fewest_34 : decode cX8_fewest 34 = .ok (.if_icmp .eq 14, 3) := by decide +kernel
theorem dX8_fewest_37 : decode cX8_fewest 37 = .ok (.iload_n 2, 1) := by decide +kernel
theorem dX8_fewest_38 : decode cX8_fewest 38 = .ok (.invokestatic 221, 3) := by decide +kernel
theorem dX8_fewest_41 : decode cX8_fewest 41 = .ok (.iload_n 1, 1) := by decide +kernel
theorem dX8_fewest_42 : decode cX8_fewest 42 = .ok (.invokestatic 221, 3) := by decide +kernel
theorem dX8_fewest_45 : decode cX8_fewest 45 = .ok (.if_icmp .ge 5, 3) := by decide +kernel
theorem dX8_fewest_48 : decode cX8_fewest 48 = .ok (.iload_n 2, 1) := by decide +kernel
theorem dX8_fewest_49 : decode cX8_fewest 49 = .ok (.istore_n 1, 1) := by decide +kernel
theorem dX8_fewest_50 : decode cX8_fewest 50 = .ok (.iinc 2 1, 3) := by decide +kernel
theorem dX8_fewest_53 : decode cX8_fewest 53 = .ok (.goto (-40), 3) := by decide +kernel
theorem dX8_fewest_56 : decode cX8_fewest 56 = .ok (.iload_n 1, 1) := by decide +kernel
theorem dX8_fewest_57 : decode cX8_fewest 57 = .ok (.iconst (-1), 1) := by decide +kernel
theorem dX8_fewest_58 : decode cX8_fewest 58 = .ok (.if_icmp .ne 6, 3) := by decide +kernel
theorem dX8_fewest_61 : decode cX8_fewest 61 = .ok (.bipush (-2), 2) := by decide +kernel
theorem dX8_fewest_63 : decode cX8_fewest 63 = .ok (.ireturn, 1) := by decide +kernel
theorem dX8_fewest_64 : decode cX8_fewest 64 = .ok (.aload_n 0, 1) := by decide +kernel
theorem dX8_fewest_65 : decode cX8_fewest 65 = .ok (.iconst 0, 1) := by decide +kernel
theorem dX8_fewest_66 : decode cX8_fewest 66 = .ok (.putfield 117, 3) := by decide +kernel
theorem dX8_fewest_69 : decode cX8_fewest 69 = .ok (.aload_n 0, 1) := by decide +kernel
theorem dX8_fewest_70 : decode cX8_fewest 70 = .ok (.iload_n 1, 1) := by decide +kernel
theorem dX8_fewest_71 : decode cX8_fewest 71 = .ok (.i2l, 1) := by decide +kernel
theorem dX8_fewest_72 : decode cX8_fewest 72 = .ok (.invokevirtual 284, 3) := by decide +kernel
theorem dX8_fewest_75 : decode cX8_fewest 75 = .ok (.iload_n 1, 1) := by decide +kernel
theorem dX8_fewest_76 : decode cX8_fewest 76 = .ok (.invokestatic 221, 3) := by decide +kernel
theorem dX8_fewest_79 : decode cX8_fewest 79 = .ok (.ireturn, 1) := by decide +kernel
theorem dX8_fine_0 : decode cX8_fine 0 = .ok (.aload_n 0, 1) := by decide +kernel
theorem dX8_fine_1 : decode cX8_fine 1 = .ok (.getfield 146, 3) := by decide +kernel
theorem dX8_fine_4 : decode cX8_fine 4 = .ok (.iconst (-1), 1) := by decide +kernel
theorem dX8_fine_5 : decode cX8_fine 5 = .ok (.if_icmp .ne 7, 3) := by decide +kernel
theorem dX8_fine_8 : decode cX8_fine 8 = .ok (.iconst 1, 1) := by decide +kernel
theorem dX8_fine_9 : decode cX8_fine 9 = .ok (.goto 4, 3) := by decide +kernel
theorem dX8_fine_12 : decode cX8_fine 12 = .ok (.iconst 0, 1) := by decide +kernel
theorem dX8_fine_13 : decode cX8_fine 13 = .ok (.ireturn, 1) := by decide +kernel
theorem dX8_first_0 : decode cX8_first 0 = .ok (.aload_n 0, 1) := by decide +kernel
theorem dX8_first_1 : decode cX8_first 1 = .ok (.iconst 0, 1) := by decide +kernel
theorem dX8_first_2 : decode cX8_first 2 = .ok (.putfield 114, 3) := by decide +kernel
theorem dX8_first_5 : decode cX8_first 5 = .ok (.iload_n 1, 1) := by decide +kernel
theorem dX8_first_6 : decode cX8_first 6 = .ok (.iconst 1, 1) := by decide +kernel
theorem dX8_first_7 : decode cX8_first 7 = .ok (.bipush 60, 2) := by decide +kernel
theorem dX8_first_9 : decode cX8_first 9 = .ok (.invokestatic 123, 3) := by decide +kernel
theorem dX8_first_12 : decode cX8_first 12 = .ok (.ifCond .ne 5, 3) := by decide +kernel
theorem dX8_first_15 : decode cX8_first 15 = .ok (.iconst (-1), 1) := by decide +kernel
theorem dX8_first_16 : decode cX8_first 16 = .ok (.ireturn, 1) := by decide +kernel
theorem dX8_first_17 : decode cX8_first 17 = .ok (.aload_n 0, 1) := by decide +kernel
theorem dX8_first_18 : decode cX8_first 18 = .ok (.getfield 9, 3) := by decide +kernel
theorem dX8_first_21 : decode cX8_first 21 = .ok (.aload_n 0, 1) := by decide +kernel
theorem dX8_first_22 : decode cX8_first 22 = .ok (.getfield 55, 3) := by decide +kernel
theorem dX8_first_25 : decode cX8_first 25 = .ok (.iconst 0, 1) := by decide +kernel
theorem dX8_first_26 : decode cX8_first 26 = .ok (.invokestatic 249, 3) := by decide +kernel
theorem dX8_first_29 : decode cX8_first 29 = .ok (.iconst 0, 1) := by decide +kernel
theorem dX8_first_30 : decode cX8_first 30 = .ok (.istore_n 2, 1) := by decide +kernel
theorem dX8_first_31 : decode cX8_first 31 = .ok (.iload_n 2, 1) := by decide +kernel
theorem dX8_first_32 : decode cX8_first 32 = .ok (.iload_n 1, 1) := by decide +kernel
theorem dX8_first_33 : decode cX8_first 33 = .ok (.if_icmp .ge 46, 3) := by decide +kernel
theorem dX8_first_36 : decode cX8_first 36 = .ok (.aload_n 0, 1) := by decide +kernel
theorem dX8_first_37 : decode cX8_first 37 = .ok (.aload_n 0, 1) := by decide +kernel
theorem dX8_first_38 : decode cX8_first 38 = .ok (.getfield 55, 3) := by decide +kernel
theorem dX8_first_41 : decode cX8_first 41 = .ok (.invokevirtual 277, 3) := by decide +kernel
theorem dX8_first_44 : decode cX8_first 44 = .ok (.aload_n 0, 1) := by decide +kernel
theorem dX8_first_45 : decode cX8_first 45 = .ok (.getfield 265, 3) := by decide +kernel
theorem dX8_first_48 : decode cX8_first 48 = .ok (.ifCond .ne 6, 3) := by decide +kernel
theorem dX8_first_51 : decode cX8_first 51 = .ok (.goto 22, 3) := by decide +kernel
theorem dX8_first_54 : decode cX8_first 54 = .ok (.aload_n 0, 1) := by decide +kernel
theorem dX8_first_55 : decode cX8_first 55 = .ok (.iconst 0, 1) := by decide +kernel
theorem dX8_first_56 : decode cX8_first 56 = .ok (.putfield 117, 3) := by decide +kernel
theorem dX8_first_59 : decode cX8_first 59 = .ok (.aload_n 0, 1) := by decide +kernel
theorem dX8_first_60 : decode cX8_first 60 = .ok (.aload_n 0, 1) := by decide +kernel
theorem dX8_first_61 : decode cX8_first 61 = .ok (.getfield 265, 3) := by decide +kernel
theorem dX8_first_64 : decode cX8_first 64 = .ok (.invokestatic 304, 3) := by decide +kernel
theorem dX8_first_67 : decode cX8_first 67 = .ok (.i2l, 1) := by decide +kernel
theorem dX8_first_68 : decode cX8_first 68 = .ok (.invokevirtual 284, 3) := by decide +kernel
theorem dX8_first_71 : decode cX8_first 71 = .ok (.iload_n 2, 1) := by decide +kernel
theorem dX8_first_72 : decode cX8_first 72 = .ok (.ireturn, 1) := by decide +kernel
theorem dX8_first_73 : decode cX8_first 73 = .ok (.iinc 2 1, 3) := by decide +kernel
theorem dX8_first_76 : decode cX8_first 76 = .ok (.goto (-45), 3) := by decide +kernel
theorem dX8_first_79 : decode cX8_first 79 = .ok (.bipush (-2), 2) := by decide +kernel
theorem dX8_first_81 : decode cX8_first 81 = .ok (.ireturn, 1) := by decide +kernel
theorem dX8_firstGets_0 : decode cX8_firstGets 0 = .ok (.iload_n 0, 1) := by decide +kernel
theorem dX8_firstGets_1 : decode cX8_firstGets 1 = .ok (.iload_n 1, 1) := by decide +kernel
theorem dX8_firstGets_2 : decode cX8_firstGets 2 = .ok (.if_icmp .lt 9, 3) := by decide +kernel
theorem dX8_firstGets_5 : decode cX8_firstGets 5 = .ok (.iload_n 2, 1) := by decide +kernel
theorem dX8_firstGets_6 : decode cX8_firstGets 6 = .ok (.iload_n 1, 1) := by decide +kernel
theorem dX8_firstGets_7 : decode cX8_firstGets 7 = .ok (.isub, 1) := by decide +kernel
theorem dX8_firstGets_8 : decode cX8_firstGets 8 = .ok (.goto 4, 3) := by decide +kernel
theorem dX8_firstGets_11 : decode cX8_firstGets 11 = .ok (.iconst 0, 1) := by decide +kernel
theorem dX8_firstGets_12 : decode cX8_firstGets 12 = .ok (.ireturn, 1) := by decide +kernel
theorem dX8_fits_0 : decode cX8_fits 0 = .ok (.aload_n 0, 1) := by decide +kernel
theorem dX8_fits_1 : decode cX8_fits 1 = .ok (.iconst 0, 1) := by decide +kernel
theorem dX8_fits_2 : decode cX8_fits 2 = .ok (.putfield 114, 3) := by decide +kernel
theorem dX8_fits_5 : decode cX8_fits 5 = .ok (.aload_n 0, 1) := by decide +kernel
theorem dX8_fits_6 : decode cX8_fits 6 = .ok (.iconst (-1), 1) := by decide +kernel
theorem dX8_fits_7 : decode cX8_fits 7 = .ok (.iconst (-1), 1) := by decide +kernel
theorem dX8_fits_8 : decode cX8_fits 8 = .ok (.invokevirtual 371, 3) := by decide +kernel
theorem dX8_fits_11 : decode cX8_fits 11 = .ok (.istore_n 1, 1) := by decide +kernel
theorem dX8_fits_12 : decode cX8_fits 12 = .ok (.aload_n 0, 1) := by decide +kernel
theorem dX8_fits_13 : decode cX8_fits 13 = .ok (.iconst 0, 1) := by decide +kernel
theorem dX8_fits_14 : decode cX8_fits 14 = .ok (.putfield 117, 3) := by decide +kernel
theorem dX8_fits_17 : decode cX8_fits 17 = .ok (.iload_n 1, 1) := by decide +kernel
theorem dX8_fits_18 : decode cX8_fits 18 = .ok (.ifCond .ne 7, 3) := by decide +kernel
theorem dX8_fits_21 : decode cX8_fits 21 = .ok (.iconst 0, 1) := by decide +kernel
theorem dX8_fits_22 : decode cX8_fits 22 = .ok (.goto 7, 3) := by decide +kernel
theorem dX8_fits_25 : decode cX8_fits 25 = .ok (.aload_n 0, 1) := by decide +kernel
theorem dX8_fits_26 : decode cX8_fits 26 = .ok (.invokevirtual 353, 3) := by decide +kernel
theorem dX8_fits_29 : decode cX8_fits 29 = .ok (.ireturn, 1) := by decide +kernel
theorem dX8_fitting_0 : decode cX8_fitting 0 = .ok (.aload_n 0, 1) := by decide +kernel
theorem dX8_fitting_1 : decode cX8_fitting 1 = .ok (.invokevirtual 368, 3) := by decide +kernel
theorem dX8_fitting_4 : decode cX8_fitting 4 = .ok (.iload_n 1, 1) := by decide +kernel
theorem dX8_fitting_5 : decode cX8_fitting 5 = .ok (.iconst (-1), 1) := by decide +kernel
theorem dX8_fitting_6 : decode cX8_fitting 6 = .ok (.if_icmp .eq 9, 3) := by decide +kernel
theorem dX8_fitting_9 : decode cX8_fitting 9 = .ok (.aload_n 0, 1) := by decide +kernel
theorem dX8_fitting_10 : decode cX8_fitting 10 = .ok (.iload_n 1, 1) := by decide +kernel
theorem dX8_fitting_11 : decode cX8_fitting 11 = .ok (.iload_n 2, 1) := by decide +kernel
theorem dX8_fitting_12 : decode cX8_fitting 12 = .ok (.invokevirtual 323, 3) := by decide +kernel
theorem dX8_fitting_15 : decode cX8_fitting 15 = .ok (.iconst 0, 1) := by decide +kernel
theorem dX8_fitting_16 : decode cX8_fitting 16 = .ok (.istore_n 3, 1) := by decide +kernel
theorem dX8_fitting_17 : decode cX8_fitting 17 = .ok (.iload_n 3, 1) := by decide +kernel
theorem dX8_fitting_18 : decode cX8_fitting 18 = .ok (.aload_n 0, 1) := by decide +kernel
theorem dX8_fitting_19 : decode cX8_fitting 19 = .ok (.getfield 120, 3) := by decide +kernel
theorem dX8_fitting_22 : decode cX8_fitting 22 = .ok (.if_icmp .ge 19, 3) := by decide +kernel
theorem dX8_fitting_25 : decode cX8_fitting 25 = .ok (.aload_n 0, 1) := by decide +kernel
theorem dX8_fitting_26 : decode cX8_fitting 26 = .ok (.iload_n 3, 1) := by decide +kernel
theorem dX8_fitting_27 : decode cX8_fitting 27 = .ok (.invokevirtual 326, 3) := by decide +kernel
theorem dX8_fitting_30 : decode cX8_fitting 30 = .ok (.ifCond .ne 5, 3) := by decide +kernel
theorem dX8_fitting_33 : decode cX8_fitting 33 = .ok (.iconst 0, 1) := by decide +kernel
theorem dX8_fitting_34 : decode cX8_fitting 34 = .ok (.ireturn, 1) := by decide +kernel
theorem dX8_fitting_35 : decode cX8_fitting 35 = .ok (.iinc 3 1, 3) := by decide +kernel
theorem dX8_fitting_38 : decode cX8_fitting 38 = .ok (.goto (-21), 3) := by decide +kernel
theorem dX8_fitting_41 : decode cX8_fitting 41 = .ok (.aload_n 0, 1) := by decide +kernel
theorem dX8_fitting_42 : decode cX8_fitting 42 = .ok (.invokevirtual 350, 3) := by decide +kernel
theorem dX8_fitting_45 : decode cX8_fitting 45 = .ok (.ireturn, 1) := by decide +kernel
theorem dX8_fix_0 : decode cX8_fix 0 = .ok (.iconst 0, 1) := by decide +kernel
theorem dX8_fix_1 : decode cX8_fix 1 = .ok (.istore_n 3, 1) := by decide +kernel
theorem dX8_fix_2 : decode cX8_fix 2 = .ok (.iload_n 3, 1) := by decide +kernel
theorem dX8_fix_3 : decode cX8_fix 3 = .ok (.aload_n 0, 1) := by decide +kernel
theorem dX8_fix_4 : decode cX8_fix 4 = .ok (.getfield 120, 3) := by decide +kernel
theorem dX8_fix_7 : decode cX8_fix 7 = .ok (.if_icmp .ge 28, 3) := by decide +kernel
theorem dX8_fix_10 : decode cX8_fix 10 = .ok (.iload_n 3, 1) := by decide +kernel
theorem dX8_fix_11 : decode cX8_fix 11 = .ok (.iload_n 2, 1) := by decide +kernel
theorem dX8_fix_12 : decode cX8_fix 12 = .ok (.if_icmp .eq 17, 3) := by decide +kernel
theorem dX8_fix_15 : decode cX8_fix 15 = .ok (.aload_n 0, 1) := by decide +kernel
theorem dX8_fix_16 : decode cX8_fix 16 = .ok (.getfield 67, 3) := by decide +kernel
theorem dX8_fix_19 : decode cX8_fix 19 = .ok (.iload_n 3, 1) := by decide +kernel
theorem dX8_fix_20 : decode cX8_fix 20 = .ok (.dup2, 1) := by decide +kernel
theorem dX8_fix_21 : decode cX8_fix 21 = .ok (.iaload, 1) := by decide +kernel
theorem dX8_fix_22 : decode cX8_fix 22 = .ok (.iconst 1, 1) := by decide +kernel
theorem dX8_fix_23 : decode cX8_fix 23 = .ok (.iload_n 1, 1) := by decide +kernel
theorem dX8_fix_24 : decode cX8_fix 24 = .ok (.ishl, 1) := by decide +kernel
theorem dX8_fix_25 : decode cX8_fix 25 = .ok (.iconst (-1), 1) := by decide +kernel
theorem dX8_fix_26 : decode cX8_fix 26 = .ok (.ixor, 1) := by decide +kernel
theorem dX8_fix_27 : decode cX8_fix 27 = .ok (.iand, 1) := by decide +kernel
theorem dX8_fix_28 : decode cX8_fix 28 = .ok (.iastore, 1) := by decide +kernel
theorem dX8_fix_29 : decode cX8_fix 29 = .ok (.iinc 3 1, 3) := by decide +kernel
theorem dX8_fix_32 : decode cX8_fix 32 = .ok (.goto (-30), 3) := by decide +kernel
theorem dX8_fix_35 : decode cX8_fix 35 = .ok (.aload_n 0, 1) := by decide +kernel
theorem dX8_fix_36 : decode cX8_fix 36 = .ok (.getfield 70, 3) := by decide +kernel
theorem dX8_fix_39 : decode cX8_fix 39 = .ok (.iload_n 2, 1) := by decide +kernel
theorem dX8_fix_40 : decode cX8_fix 40 = .ok (.dup2, 1) := by decide +kernel
theorem dX8_fix_41 : decode cX8_fix 41 = .ok (.iaload, 1) := by decide +kernel
theorem dX8_fix_42 : decode cX8_fix 42 = .ok (.iconst 1, 1) := by decide +kernel
theorem dX8_fix_43 : decode cX8_fix 43 = .ok (.iload_n 1, 1) := by decide +kernel
theorem dX8_fix_44 : decode cX8_fix 44 = .ok (.ishl, 1) := by decide +kernel
theorem dX8_fix_45 : decode cX8_fix 45 = .ok (.ior, 1) := by decide +kernel
theorem dX8_fix_46 : decode cX8_fix 46 = .ok (.iastore, 1) := by decide +kernel
theorem dX8_fix_47 : decode cX8_fix 47 = .ok (.return_, 1) := by decide +kernel
theorem dX8_forget_0 : decode cX8_forget 0 = .ok (.aload_n 0, 1) := by decide +kernel
theorem dX8_forget_1 : decode cX8_forget 1 = .ok (.iconst 0, 1) := by decide +kernel
theorem dX8_forget_2 : decode cX8_forget 2 = .ok (.putfield 114, 3) := by decide +kernel
theorem dX8_forget_5 : decode cX8_forget 5 = .ok (.aload_n 0, 1) := by decide +kernel
theorem dX8_forget_6 : decode cX8_forget 6 = .ok (.getfield 362, 3) := by decide +kernel
theorem dX8_forget_9 : decode cX8_forget 9 = .ok (.istore_n 1, 1) := by decide +kernel
theorem dX8_forget_10 : decode cX8_forget 10 = .ok (.aload_n 0, 1) := by decide +kernel
theorem dX8_forget_11 : decode cX8_forget 11 = .ok (.iconst 0, 1) := by decide +kernel
theorem dX8_forget_12 : decode cX8_forget 12 = .ok (.putfield 362, 3) := by decide +kernel
theorem dX8_forget_15 : decode cX8_forget 15 = .ok (.iload_n 1, 1) := by decide +kernel
theorem dX8_forget_16 : decode cX8_forget 16 = .ok (.ireturn, 1) := by decide +kernel
theorem dX8_found_0 : decode cX8_found 0 = .ok (.aload_n 0, 1) := by decide +kernel
theorem dX8_found_1 : decode cX8_found 1 = .ok (.iconst 0, 1) := by decide +kernel
theorem dX8_found_2 : decode cX8_found 2 = .ok (.putfield 114, 3) := by decide +kernel
theorem dX8_found_5 : decode cX8_found 5 = .ok (.iload_n 1, 1) := by decide +kernel
theorem dX8_found_6 : decode cX8_found 6 = .ok (.invokestatic 242, 3) := by decide +kernel
theorem dX8_found_9 : decode cX8_found 9 = .ok (.ifCond .eq 29, 3) := by decide +kernel
theorem dX8_found_12 : decode cX8_found 12 = .ok (.aload_n 0, 1) := by decide +kernel
theorem dX8_found_13 : decode cX8_found 13 = .ok (.iload_n 2, 1) := by decide +kernel
theorem dX8_found_14 : decode cX8_found 14 = .ok (.invokevirtual 127, 3) := by decide +kernel
theorem dX8_found_17 : decode cX8_found 17 = .ok (.ifCond .eq 21, 3) := by decide +kernel
theorem dX8_found_20 : decode cX8_found 20 = .ok (.iload_n 3, 1) := by decide +kernel
theorem dX8_found_21 : decode cX8_found 21 = .ok (.iconst 0, 1) := by decide +kernel
theorem dX8_found_22 : decode cX8_found 22 = .ok (.iconst 1, 1) := by decide +kernel
theorem dX8_found_23 : decode cX8_found 23 = .ok (.invokestatic 123, 3) := by decide +kernel
theorem dX8_found_26 : decode cX8_found 26 = .ok (.ifCond .eq 12, 3) := by decide +kernel
theorem dX8_found_29 : decode cX8_found 29 = .ok (.aload_n 0, 1) := by decide +kernel
theorem dX8_found_30 : decode cX8_found 30 = .ok (.getfield 362, 3) := by decide +kernel
theorem dX8_found_33 : decode cX8_found 33 = .ok (.bipush 12, 2) := by decide +kernel
theorem dX8_found_35 : decode cX8_found 35 = .ok (.if_icmp .ne 5, 3) := by decide +kernel
theorem dX8_found_38 : decode cX8_found 38 = .ok (.iconst (-1), 1) := by decide +kernel
theorem dX8_found_39 : decode cX8_found 39 = .ok (.ireturn, 1) := by decide +kernel
theorem dX8_found_40 : decode cX8_found 40 = .ok (.aload_n 0, 1) := by decide +kernel
theorem dX8_found_41 : decode cX8_found 41 = .ok (.getfield 99, 3) := by decide +kernel
theorem dX8_found_44 : decode cX8_found 44 = .ok (.aload_n 0, 1) := by decide +kernel
theorem dX8_found_45 : decode cX8_found 45 = .ok (.getfield 362, 3) := by decide +kernel
theorem dX8_found_48 : decode cX8_found 48 = .ok (.iload_n 1, 1) := by decide +kernel
theorem dX8_found_49 : decode cX8_found 49 = .ok (.iastore, 1) := by decide +kernel
theorem dX8_found_50 : decode cX8_found 50 = .ok (.aload_n 0, 1) := by decide +kernel
theorem dX8_found_51 : decode cX8_found 51 = .ok (.getfield 102, 3) := by decide +kernel
theorem dX8_found_54 : decode cX8_found 54 = .ok (.aload_n 0, 1) := by decide +kernel
theorem dX8_found_55 : decode cX8_found 55 = .ok (.getfield 362, 3) := by decide +kernel
theorem dX8_found_58 : decode cX8_found 58 = .ok (.iload_n 2, 1) := by decide +kernel
theorem dX8_found_59 : decode cX8_found 59 = .ok (.iastore, 1) := by decide +kernel
theorem dX8_found_60 : decode cX8_found 60 = .ok (.aload_n 0, 1) := by decide +kernel
theorem dX8_found_61 : decode cX8_found 61 = .ok (.aload_n 0, 1) := by decide +kernel
theorem dX8_found_62 : decode cX8_found 62 = .ok (.getfield 365, 3) := by decide +kernel
theorem dX8_found_65 : decode cX8_found 65 = .ok (.iconst 1, 1) := by decide +kernel
theorem dX8_found_66 : decode cX8_found 66 = .ok (.aload_n 0, 1) := by decide +kernel
theorem dX8_found_67 : decode cX8_found 67 = .ok (.getfield 362, 3) := by decide +kernel
theorem dX8_found_70 : decode cX8_found 70 = .ok (.ishl, 1) := by decide +kernel
theorem dX8_found_71 : decode cX8_found 71 = .ok (.iconst (-1), 1) := by decide +kernel
theorem dX8_found_72 : decode cX8_found 72 = .ok (.ixor, 1) := by decide +kernel
theorem dX8_found_73 : decode cX8_found 73 = .ok (.iand, 1) := by decide +kernel
theorem dX8_found_74 : decode cX8_found 74 = .ok (.iload_n 3, 1) := by decide +kernel
theorem dX8_found_75 : decode cX8_found 75 = .ok (.aload_n 0, 1) := by decide +kernel
theorem dX8_found_76 : decode cX8_found 76 = .ok (.getfield 362, 3) := by decide +kernel
theorem dX8_found_79 : decode cX8_found 79 = .ok (.ishl, 1) := by decide +kernel
theorem dX8_found_80 : decode cX8_found 80 = .ok (.ior, 1) := by decide +kernel
theorem dX8_found_81 : decode cX8_found 81 = .ok (.putfield 365, 3) := by decide +kernel
theorem dX8_found_84 : decode cX8_found 84 = .ok (.aload_n 0, 1) := by decide +kernel
theorem dX8_found_85 : decode cX8_found 85 = .ok (.dup, 1) := by decide +kernel
theorem dX8_found_86 : decode cX8_found 86 = .ok (.getfield 362, 3) := by decide +kernel
theorem dX8_found_89 : decode cX8_found 89 = .ok (.iconst 1, 1) := by decide +kernel
theorem dX8_found_90 : decode cX8_found 90 = .ok (.iadd, 1) := by decide +kernel
theorem dX8_found_91 : decode cX8_found 91 = .ok (.putfield 362, 3) := by decide +kernel
theorem dX8_found_94 : decode cX8_found 94 = .ok (.aload_n 0, 1) := by decide +kernel
theorem dX8_found_95 : decode cX8_found 95 = .ok (.getfield 362, 3) := by decide +kernel
theorem dX8_found_98 : decode cX8_found 98 = .ok (.ireturn, 1) := by decide +kernel
theorem dX8_gaps_0 : decode cX8_gaps 0 = .ok (.aload_n 0, 1) := by decide +kernel
theorem dX8_gaps_1 : decode cX8_gaps 1 = .ok (.iconst 0, 1) := by decide +kernel
theorem dX8_gaps_2 : decode cX8_gaps 2 = .ok (.putfield 114, 3) := by decide +kernel
theorem dX8_gaps_5 : decode cX8_gaps 5 = .ok (.aload_n 0, 1) := by decide +kernel
theorem dX8_gaps_6 : decode cX8_gaps 6 = .ok (.getfield 9, 3) := by decide +kernel
theorem dX8_gaps_9 : decode cX8_gaps 9 = .ok (.aload_n 0, 1) := by decide +kernel
theorem dX8_gaps_10 : decode cX8_gaps 10 = .ok (.getfield 55, 3) := by decide +kernel
theorem dX8_gaps_13 : decode cX8_gaps 13 = .ok (.iconst 0, 1) := by decide +kernel
theorem dX8_gaps_14 : decode cX8_gaps 14 = .ok (.invokestatic 249, 3) := by decide +kernel
theorem dX8_gaps_17 : decode cX8_gaps 17 = .ok (.aload_n 0, 1) := by decide +kernel
theorem dX8_gaps_18 : decode cX8_gaps 18 = .ok (.aload_n 0, 1) := by decide +kernel
theorem dX8_gaps_19 : decode cX8_gaps 19 = .ok (.getfield 55, 3) := by decide +kernel
theorem dX8_gaps_22 : decode cX8_gaps 22 = .ok (.invokevirtual 277, 3) := by decide +kernel
theorem dX8_gaps_25 : decode cX8_gaps 25 = .ok (.aload_n 0, 1) := by decide +kernel
theorem dX8_gaps_26 : decode cX8_gaps 26 = .ok (.iconst 0, 1) := by decide +kernel
theorem dX8_gaps_27 : decode cX8_gaps 27 = .ok (.putfield 117, 3) := by decide +kernel
theorem dX8_gaps_30 : decode cX8_gaps 30 = .ok (.aload_n 0, 1) := by decide +kernel
theorem dX8_gaps_31 : decode cX8_gaps 31 = .ok (.aload_n 0, 1) := by decide +kernel
theorem dX8_gaps_32 : decode cX8_gaps 32 = .ok (.getfield 265, 3) := by decide +kernel
theorem dX8_gaps_35 : decode cX8_gaps 35 = .ok (.invokestatic 221, 3) := by decide +kernel
theorem dX8_gaps_38 : decode cX8_gaps 38 = .ok (.i2l, 1) := by decide +kernel
theorem dX8_gaps_39 : decode cX8_gaps 39 = .ok (.invokevirtual 284, 3) := by decide +kernel
theorem dX8_gaps_42 : decode cX8_gaps 42 = .ok (.aload_n 0, 1) := by decide +kernel
theorem dX8_gaps_43 : decode cX8_gaps 43 = .ok (.aload_n 0, 1) := by decide +kernel
theorem dX8_gaps_44 : decode cX8_gaps 44 = .ok (.getfield 268, 3) := by decide +kernel
theorem dX8_gaps_47 : decode cX8_gaps 47 = .ok (.i2l, 1) := by decide +kernel
theorem dX8_gaps_48 : decode cX8_gaps 48 = .ok (.invokevirtual 284, 3) := by decide +kernel
theorem dX8_gaps_51 : decode cX8_gaps 51 = .ok (.aload_n 0, 1) := by decide +kernel
theorem dX8_gaps_52 : decode cX8_gaps 52 = .ok (.getfield 265, 3) := by decide +kernel
theorem dX8_gaps_55 : decode cX8_gaps 55 = .ok (.ireturn, 1) := by decide +kernel
theorem dX8_give_0 : decode cX8_give 0 = .ok (.aload_n 0, 1) := by decide +kernel
theorem dX8_give_1 : decode cX8_give 1 = .ok (.iconst 0, 1) := by decide +kernel
theorem dX8_give_2 : decode cX8_give 2 = .ok (.putfield 114, 3) := by decide +kernel
theorem dX8_give_5 : decode cX8_give 5 = .ok (.aload_n 0, 1) := by decide +kernel
theorem dX8_give_6 : decode cX8_give 6 = .ok (.iload_n 1, 1) := by decide +kernel
theorem dX8_give_7 : decode cX8_give 7 = .ok (.iload_n 2, 1) := by decide +kernel
theorem dX8_give_8 : decode cX8_give 8 = .ok (.invokevirtual 257, 3) := by decide +kernel
theorem dX8_give_11 : decode cX8_give 11 = .ok (.ifCond .ne 6, 3) := by decide +kernel
theorem dX8_give_14 : decode cX8_give 14 = .ok (.bipush (-2), 2) := by decide +kernel
theorem dX8_give_16 : decode cX8_give 16 = .ok (.ireturn, 1) := by decide +kernel
theorem dX8_give_17 : decode cX8_give 17 = .ok (.aload_n 0, 1) := by decide +kernel
theorem dX8_give_18 : decode cX8_give 18 = .ok (.aload_n 0, 1) := by decide +kernel
theorem dX8_give_19 : decode cX8_give 19 = .ok (.getfield 9, 3) := by decide +kernel
theorem dX8_give_22 : decode cX8_give 22 = .ok (.invokevirtual 253, 3) := by decide +kernel
theorem dX8_give_25 : decode cX8_give 25 = .ok (.aload_n 0, 1) := by decide +kernel
theorem dX8_give_26 : decode cX8_give 26 = .ok (.getfield 9, 3) := by decide +kernel
theorem dX8_give_29 : decode cX8_give 29 = .ok (.iload_n 1, 1) := by decide +kernel
theorem dX8_give_30 : decode cX8_give 30 = .ok (.iaload, 1) := by decide +kernel
theorem dX8_give_31 : decode cX8_give 31 = .ok (.istore_n 3, 1) := by decide +kernel
theorem dX8_give_32 : decode cX8_give 32 = .ok (.aload_n 0, 1) := by decide +kernel
theorem dX8_give_33 : decode cX8_give 33 = .ok (.getfield 9, 3) := by decide +kernel
theorem dX8_give_36 : decode cX8_give 36 = .ok (.iload_n 1, 1) := by decide +kernel
theorem dX8_give_37 : decode cX8_give 37 = .ok (.iload_n 2, 1) := by decide +kernel
theorem dX8_give_38 : decode cX8_give 38 = .ok (.iastore, 1) := by decide +kernel
theorem dX8_give_39 : decode cX8_give 39 = .ok (.iload_n 3, 1) := by decide +kernel
theorem dX8_give_40 : decode cX8_give 40 = .ok (.ireturn, 1) := by decide +kernel
theorem dX8_goExchange_0 : decode cX8_goExchange 0 = .ok (.iconst 0, 1) := by decide +kernel
theorem dX8_goExchange_1 : decode cX8_goExchange 1 = .ok (.istore_n 3, 1) := by decide +kernel
theorem dX8_goExchange_2 : decode cX8_goExchange 2 = .ok (.iload_n 3, 1) := by decide +kernel
theorem dX8_goExchange_3 : decode cX8_goExchange 3 = .ok (.bipush 8, 2) := by decide +kernel
theorem dX8_goExchange_5 : decode cX8_goExchange 5 = .ok (.if_icmp .ge 49, 3) := by decide +kernel
theorem dX8_goExchange_8 : decode cX8_goExchange 8 = .ok (.aload_n 0, 1) := by decide +kernel
theorem dX8_goExchange_9 : decode cX8_goExchange 9 = .ok (.getfield 9, 3) := by decide +kernel
theorem dX8_goExchange_12 : decode cX8_goExchange 12 = .ok (.iload_n 3, 1) := by decide +kernel
theorem dX8_goExchange_13 : decode cX8_goExchange 13 = .ok (.aload_n 0, 1) := by decide +kernel
theorem dX8_goExchange_14 : decode cX8_goExchange 14 = .ok (.getfield 9, 3) := by decide +kernel
theorem dX8_goExchange_17 : decode cX8_goExchange 17 = .ok (.iload_n 3, 1) := by decide +kernel
theorem dX8_goExchange_18 : decode cX8_goExchange 18 = .ok (.iaload, 1) := by decide +kernel
theorem dX8_goExchange_19 : decode cX8_goExchange 19 = .ok (.iload_n 1, 1) := by decide +kernel
theorem dX8_goExchange_20 : decode cX8_goExchange 20 = .ok (.if_icmp .ne 7, 3) := by decide +kernel
theorem dX8_goExchange_23 : decode cX8_goExchange 23 = .ok (.iload_n 2, 1) := by decide +kernel
theorem dX8_goExchange_24 : decode cX8_goExchange 24 = .ok (.goto 23, 3) := by decide +kernel
theorem dX8_goExchange_27 : decode cX8_goExchange 27 = .ok (.aload_n 0, 1) := by decide +kernel
theorem dX8_goExchange_28 : decode cX8_goExchange 28 = .ok (.getfield 9, 3) := by decide +kernel
theorem dX8_goExchange_31 : decode cX8_goExchange 31 = .ok (.iload_n 3, 1) := by decide +kernel
theorem dX8_goExchange_32 : decode cX8_goExchange 32 = .ok (.iaload, 1) := by decide +kernel
theorem dX8_goExchange_33 : decode cX8_goExchange 33 = .ok (.iload_n 2, 1) := by decide +kernel
theorem dX8_goExchange_34 : decode cX8_goExchange 34 = .ok (.if_icmp .ne 7, 3) := by decide +kernel
theorem dX8_goExchange_37 : decode cX8_goExchange 37 = .ok (.iload_n 1, 1) := by decide +kernel
theorem dX8_goExchange_38 : decode cX8_goExchange 38 = .ok (.goto 9, 3) := by decide +kernel
theorem dX8_goExchange_41 : decode cX8_goExchange 41 = .ok (.aload_n 0, 1) := by decide +kernel
theorem dX8_goExchange_42 : decode cX8_goExchange 42 = .ok (.getfield 9, 3) := by decide +kernel
theorem dX8_goExchange_45 : decode cX8_goExchange 45 = .ok (.iload_n 3, 1) := by decide +kernel
theorem dX8_goExchange_46 : decode cX8_goExchange 46 = .ok (.iaload, 1) := by decide +kernel
theorem dX8_goExchange_47 : decode cX8_goExchange 47 = .ok (.iastore, 1) := by decide +kernel
theorem dX8_goExchange_48 : decode cX8_goExchange 48 = .ok (.iinc 3 1, 3) := by decide +kernel
theorem dX8_goExchange_51 : decode cX8_goExchange 51 = .ok (.goto (-49), 3) := by decide +kernel
theorem dX8_goExchange_54 : decode cX8_goExchange 54 = .ok (.return_, 1) := by decide +kernel
theorem dX8_goNight_0 : decode cX8_goNight 0 = .ok (.aload_n 0, 1) := by decide +kernel
theorem dX8_goNight_1 : decode cX8_goNight 1 = .ok (.iconst 0, 1) := by decide +kernel
theorem dX8_goNight_2 : decode cX8_goNight 2 = .ok (.putfield 265, 3) := by decide +kernel
theorem dX8_goNight_5 : decode cX8_goNight 5 = .ok (.aload_n 0, 1) := by decide +kernel
theorem dX8_goNight_6 : decode cX8_goNight 6 = .ok (.iconst 0, 1) := by decide +kernel
theorem dX8_goNight_7 : decode cX8_goNight 7 = .ok (.putfield 268, 3) := by decide +kernel
theorem dX8_goNight_10 : decode cX8_goNight 10 = .ok (.iconst 0, 1) := by decide +kernel
theorem dX8_goNight_11 : decode cX8_goNight 11 = .ok (.istore_n 2, 1) := by decide +kernel
theorem dX8_goNight_12 : decode cX8_goNight 12 = .ok (.iload_n 2, 1) := by decide +kernel
theorem dX8_goNight_13 : decode cX8_goNight 13 = .ok (.bipush 8, 2) := by decide +kernel
theorem dX8_goNight_15 : decode cX8_goNight 15 = .ok (.if_icmp .ge 23, 3) := by decide +kernel
theorem dX8_goNight_18 : decode cX8_goNight 18 = .ok (.aload_n 0, 1) := by decide +kernel
theorem dX8_goNight_19 : decode cX8_goNight 19 = .ok (.getfield 58, 3) := by decide +kernel
theorem dX8_goNight_22 : decode cX8_goNight 22 = .ok (.iload_n 2, 1) := by decide +kernel
theorem dX8_goNight_23 : decode cX8_goNight 23 = .ok (.iconst 0, 1) := by decide +kernel
theorem dX8_goNight_24 : decode cX8_goNight 24 = .ok (.iastore, 1) := by decide +kernel
theorem dX8_goNight_25 : decode cX8_goNight 25 = .ok (.aload_n 0, 1) := by decide +kernel
theorem dX8_goNight_26 : decode cX8_goNight 26 = .ok (.getfield 61, 3) := by decide +kernel
theorem dX8_goNight_29 : decode cX8_goNight 29 = .ok (.iload_n 2, 1) := by decide +kernel
theorem dX8_goNight_30 : decode cX8_goNight 30 = .ok (.iconst 0, 1) := by decide +kernel
theorem dX8_goNight_31 : decode cX8_goNight 31 = .ok (.iastore, 1) := by decide +kernel
theorem dX8_goNight_32 : decode cX8_goNight 32 = .ok (.iinc 2 1, 3) := by decide +kernel
theorem dX8_goNight_35 : decode cX8_goNight 35 = .ok (.goto (-23), 3) := by decide +kernel
theorem dX8_goNight_38 : decode cX8_goNight 38 = .ok (.iconst (-1), 1) := by decide +kernel
theorem dX8_goNight_39 : decode cX8_goNight 39 = .ok (.istore_n 2, 1) := by decide +kernel
theorem dX8_goNight_40 : decode cX8_goNight 40 = .ok (.iconst 0, 1) := by decide +kernel
theorem dX8_goNight_41 : decode cX8_goNight 41 = .ok (.istore_n 3, 1) := by decide +kernel
theorem dX8_goNight_42 : decode cX8_goNight 42 = .ok (.iload_n 3, 1) := by decide +kernel
theorem dX8_goNight_43 : decode cX8_goNight 43 = .ok (.aload_n 0, 1) := by decide +kernel
theorem dX8_goNight_44 : decode cX8_goNight 44 = .ok (.getfield 13, 3) := by decide +kernel
theorem dX8_goNight_47 : decode cX8_goNight 47 = .ok (.if_icmp .ge 188, 3) := by decide +kernel
theorem dX8_goNight_50 : decode cX8_goNight 50 = .ok (.aload_n 1, 1) := by decide +kernel
theorem dX8_goNight_51 : decode cX8_goNight 51 = .ok (.iload_n 3, 1) := by decide +kernel
theorem dX8_goNight_52 : decode cX8_goNight 52 = .ok (.iaload, 1) := by decide +kernel
theorem dX8_goNight_53 : decode cX8_goNight 53 = .ok (.istore 4, 2) := by decide +kernel
theorem dX8_goNight_55 : decode cX8_goNight 55 = .ok (.iload 4, 2) := by decide +kernel
theorem dX8_goNight_57 : decode cX8_goNight 57 = .ok (.iconst (-1), 1) := by decide +kernel
theorem dX8_goNight_58 : decode cX8_goNight 58 = .ok (.if_icmp .eq 48, 3) := by decide +kernel
theorem dX8_goNight_61 : decode cX8_goNight 61 = .ok (.aload_n 0, 1) := by decide +kernel
theorem dX8_goNight_62 : decode cX8_goNight 62 = .ok (.getfield 26, 3) := by decide +kernel
theorem dX8_goNight_65 : decode cX8_goNight 65 = .ok (.iload 4, 2) := by decide +kernel
theorem dX8_goNight_67 : decode cX8_goNight 67 = .ok (.iaload, 1) := by decide +kernel
theorem dX8_goNight_68 : decode cX8_goNight 68 = .ok (.iload_n 3, 1) := by decide +kernel
theorem dX8_goNight_69 : decode cX8_goNight 69 = .ok (.invokestatic 271, 3) := by decide +kernel
theorem dX8_goNight_72 : decode cX8_goNight 72 = .ok (.ifCond .eq 34, 3) := by decide +kernel
theorem dX8_goNight_75 : decode cX8_goNight 75 = .ok (.aload_n 1, 1) := by decide +kernel
theorem dX8_goNight_76 : decode cX8_goNight 76 = .ok (.bipush 16, 2) := by decide +kernel
theorem dX8_goNight_78 : decode cX8_goNight 78 = .ok (.iload 4, 2) := by decide +kernel
theorem dX8_goNight_80 : decode cX8_goNight 80 = .ok (.iadd, 1) := by decide +kernel
theorem dX8_goNight_81 : decode cX8_goNight 81 = .ok (.iaload, 1) := by decide +kernel
theorem dX8_goNight_82 : decode cX8_goNight 82 = .ok (.ifCond .ne 24, 3) := by decide +kernel
theorem dX8_goNight_85 : decode cX8_goNight 85 = .ok (.aload_n 0, 1) := by decide +kernel
theorem dX8_goNight_86 : decode cX8_goNight 86 = .ok (.getfield 58, 3) := by decide +kernel
theorem dX8_goNight_89 : decode cX8_goNight 89 = .ok (.iload 4, 2) := by decide +kernel
theorem dX8_goNight_91 : decode cX8_goNight 91 = .ok (.iaload, 1) := by decide +kernel
theorem dX8_goNight_92 : decode cX8_goNight 92 = .ok (.aload_n 0, 1) := by decide +kernel
theorem dX8_goNight_93 : decode cX8_goNight 93 = .ok (.getfield 20, 3) := by decide +kernel
theorem dX8_goNight_96 : decode cX8_goNight 96 = .ok (.iload 4, 2) := by decide +kernel
theorem dX8_goNight_98 : decode cX8_goNight 98 = .ok (.iaload, 1) := by decide +kernel
theorem dX8_goNight_99 : decode cX8_goNight 99 = .ok (.if_icmp .ge 7, 3) := by decide +kernel
theorem dX8_goNight_102 : decode cX8_goNight 102 = .ok (.iconst 1, 1) := by decide +kernel
theorem dX8_goNight_103 : decode cX8_goNight 103 = .ok (.goto 4, 3) := by decide +kernel
theorem dX8_goNight_106 : decode cX8_goNight 106 = .ok (.iconst 0, 1) := by decide +kernel
theorem dX8_goNight_107 : decode cX8_goNight 107 = .ok (.istore 5, 2) := by decide +kernel
theorem dX8_goNight_109 : decode cX8_goNight 109 = .ok (.iload 5, 2) := by decide +kernel
theorem dX8_goNight_111 : decode cX8_goNight 111 = .ok (.ifCond .eq 94, 3) := by decide +kernel
theorem dX8_goNight_114 : decode cX8_goNight 114 = .ok (.aload_n 0, 1) := by decide +kernel
theorem dX8_goNight_115 : decode cX8_goNight 115 = .ok (.getfield 58, 3) := by decide +kernel
theorem dX8_goNight_118 : decode cX8_goNight 118 = .ok (.iload 4, 2) := by decide +kernel
theorem dX8_goNight_120 : decode cX8_goNight 120 = .ok (.dup2, 1) := by decide +kernel
theorem dX8_goNight_121 : decode cX8_goNight 121 = .ok (.iaload, 1) := by decide +kernel
theorem dX8_goNight_122 : decode cX8_goNight 122 = .ok (.iconst 1, 1) := by decide +kernel
theorem dX8_goNight_123 : decode cX8_goNight 123 = .ok (.iadd, 1) := by decide +kernel
theorem dX8_goNight_124 : decode cX8_goNight 124 = .ok (.iastore, 1) := by decide +kernel
theorem dX8_goNight_125 : decode cX8_goNight 125 = .ok (.aload_n 0, 1) := by decide +kernel
theorem dX8_goNight_126 : decode cX8_goNight 126 = .ok (.getfield 61, 3) := by decide +kernel
theorem dX8_goNight_129 : decode cX8_goNight 129 = .ok (.iload 4, 2) := by decide +kernel
theorem dX8_goNight_131 : decode cX8_goNight 131 = .ok (.dup2, 1) := by decide +kernel
theorem dX8_goNight_132 : decode cX8_goNight 132 = .ok (.iaload, 1) := by decide +kernel
theorem dX8_goNight_133 : decode cX8_goNight 133 = .ok (.aload_n 0, 1) := by decide +kernel
theorem dX8_goNight_134 : decode cX8_goNight 134 = .ok (.aload_n 1, 1) := by decide +kernel
theorem dX8_goNight_135 : decode cX8_goNight 135 = .ok (.iload 4, 2) := by decide +kernel
theorem dX8_goNight_137 : decode cX8_goNight 137 = .ok (.iload_n 3, 1) := by decide +kernel
theorem dX8_goNight_138 : decode cX8_goNight 138 = .ok (.invokevirtual 245, 3) := by decide +kernel
theorem dX8_goNight_141 : decode cX8_goNight 141 = .ok (.iadd, 1) := by decide +kernel
theorem dX8_goNight_142 : decode cX8_goNight 142 = .ok (.iastore, 1) := by decide +kernel
theorem dX8_goNight_143 : decode cX8_goNight 143 = .ok (.aload_n 0, 1) := by decide +kernel
theorem dX8_goNight_144 : decode cX8_goNight 144 = .ok (.dup, 1) := by decide +kernel
theorem dX8_goNight_145 : decode cX8_goNight 145 = .ok (.getfield 268, 3) := by decide +kernel
theorem dX8_goNight_148 : decode cX8_goNight 148 = .ok (.iconst 1, 1) := by decide +kernel
theorem dX8_goNight_149 : decode cX8_goNight 149 = .ok (.iload_n 3, 1) := by decide +kernel
theorem dX8_goNight_150 : decode cX8_goNight 150 = .ok (.ishl, 1) := by decide +kernel
theorem dX8_goNight_151 : decode cX8_goNight 151 = .ok (.ior, 1) := by decide +kernel
theorem dX8_goNight_152 : decode cX8_goNight 152 = .ok (.putfield 268, 3) := by decide +kernel
theorem dX8_goNight_155 : decode cX8_goNight 155 = .ok (.iload_n 2, 1) := by decide +kernel
theorem dX8_goNight_156 : decode cX8_goNight 156 = .ok (.iconst (-1), 1) := by decide +kernel
theorem dX8_goNight_157 : decode cX8_goNight 157 = .ok (.if_icmp .eq 60, 3) := by decide +kernel
theorem dX8_goNight_160 : decode cX8_goNight 160 = .ok (.iload_n 2, 1) := by decide +kernel
theorem dX8_goNight_161 : decode cX8_goNight 161 = .ok (.iload 4, 2) := by decide +kernel
theorem dX8_goNight_163 : decode cX8_goNight 163 = .ok (.if_icmp .eq 54, 3) := by decide +kernel
theorem dX8_goNight_166 : decode cX8_goNight 166 = .ok (.aload_n 0, 1) := by decide +kernel
theorem dX8_goNight_167 : decode cX8_goNight 167 = .ok (.getfield 23, 3) := by decide +kernel
theorem dX8_goNight_170 : decode cX8_goNight 170 = .ok (.iload_n 2, 1) := by decide +kernel
theorem dX8_goNight_171 : decode cX8_goNight 171 = .ok (.iaload, 1) := by decide +kernel
theorem dX8_goNight_172 : decode cX8_goNight 172 = .ok (.aload_n 0, 1) := by decide +kernel
theorem dX8_goNight_173 : decode cX8_goNight 173 = .ok (.getfield 23, 3) := by decide +kernel
theorem dX8_goNight_176 : decode cX8_goNight 176 = .ok (.iload 4, 2) := by decide +kernel
theorem dX8_goNight_178 : decode cX8_goNight 178 = .ok (.iaload, 1) := by decide +kernel
theorem dX8_goNight_179 : decode cX8_goNight 179 = .ok (.isub, 1) := by decide +kernel
theorem dX8_goNight_180 : decode cX8_goNight 180 = .ok (.invokestatic 274, 3) := by decide +kernel
theorem dX8_goNight_183 : decode cX8_goNight 183 = .ok (.aload_n 0, 1) := by decide +kernel
theorem dX8_goNight_184 : decode cX8_goNight 184 = .ok (.getfield 17, 3) := by decide +kernel
theorem dX8_goNight_187 : decode cX8_goNight 187 = .ok (.if_icmp .le 30, 3) := by decide +kernel
theorem dX8_goNight_190 : decode cX8_goNight 190 = .ok (.aload_n 0, 1) := by decide +kernel
theorem dX8_goNight_191 : decode cX8_goNight 191 = .ok (.dup, 1) := by decide +kernel
theorem dX8_goNight_192 : decode cX8_goNight 192 = .ok (.getfield 265, 3) := by decide +kernel
theorem dX8_goNight_195 : decode cX8_goNight 195 = .ok (.iconst 1, 1) := by decide +kernel
theorem dX8_goNight_196 : decode cX8_goNight 196 = .ok (.iload_n 3, 1) := by decide +kernel
theorem dX8_goNight_197 : decode cX8_goNight 197 = .ok (.ishl, 1) := by decide +kernel
theorem dX8_goNight_198 : decode cX8_goNight 198 = .ok (.ior, 1) := by decide +kernel
theorem dX8_goNight_199 : decode cX8_goNight 199 = .ok (.putfield 265, 3) := by decide +kernel
theorem dX8_goNight_202 : decode cX8_goNight 202 = .ok (.goto 15, 3) := by decide +kernel
theorem dX8_goNight_205 : decode cX8_goNight 205 = .ok (.aload_n 0, 1) := by decide +kernel
theorem dX8_goNight_206 : decode cX8_goNight 206 = .ok (.dup, 1) := by decide +kernel
theorem dX8_goNight_207 : decode cX8_goNight 207 = .ok (.getfield 265, 3) := by decide +kernel
theorem dX8_goNight_210 : decode cX8_goNight 210 = .ok (.iconst 1, 1) := by decide +kernel
theorem dX8_goNight_211 : decode cX8_goNight 211 = .ok (.iload_n 3, 1) := by decide +kernel
theorem dX8_goNight_212 : decode cX8_goNight 212 = .ok (.ishl, 1) := by decide +kernel
theorem dX8_goNight_213 : decode cX8_goNight 213 = .ok (.ior, 1) := by decide +kernel
theorem dX8_goNight_214 : decode cX8_goNight 214 = .ok (.putfield 265, 3) := by decide +kernel
theorem dX8_goNight_217 : decode cX8_goNight 217 = .ok (.iload 5, 2) := by decide +kernel
theorem dX8_goNight_219 : decode cX8_goNight 219 = .ok (.ifCond .eq 8, 3) := by decide +kernel
theorem dX8_goNight_222 : decode cX8_goNight 222 = .ok (.iload 4, 2) := by decide +kernel
theorem dX8_goNight_224 : decode cX8_goNight 224 = .ok (.goto 4, 3) := by decide +kernel
theorem dX8_goNight_227 : decode cX8_goNight 227 = .ok (.iconst (-1), 1) := by decide +kernel
theorem dX8_goNight_228 : decode cX8_goNight 228 = .ok (.istore_n 2, 1) := by decide +kernel
theorem dX8_goNight_229 : decode cX8_goNight 229 = .ok (.iinc 3 1, 3) := by decide +kernel
theorem dX8_goNight_232 : decode cX8_goNight 232 = .ok (.goto (-190), 3) := by decide +kernel
theorem dX8_goNight_235 : decode cX8_goNight 235 = .ok (.iconst 0, 1) := by decide +kernel
theorem dX8_goNight_236 : decode cX8_goNight 236 = .ok (.istore_n 3, 1) := by decide +kernel
theorem dX8_goNight_237 : decode cX8_goNight 237 = .ok (.iload_n 3, 1) := by decide +kernel
theorem dX8_goNight_238 : decode cX8_goNight 238 = .ok (.aload_n 0, 1) := by decide +kernel
theorem dX8_goNight_239 : decode cX8_goNight 239 = .ok (.getfield 120, 3) := by decide +kernel
theorem dX8_goNight_242 : decode cX8_goNight 242 = .ok (.if_icmp .ge 57, 3) := by decide +kernel
theorem dX8_goNight_245 : decode cX8_goNight 245 = .ok (.aload_n 1, 1) := by decide +kernel
theorem dX8_goNight_246 : decode cX8_goNight 246 = .ok (.bipush 8, 2) := by decide +kernel
theorem dX8_goNight_248 : decode cX8_goNight 248 = .ok (.iload_n 3, 1) := by decide +kernel
theorem dX8_goNight_249 : decode cX8_goNight 249 = .ok (.iadd, 1) := by decide +kernel
theorem dX8_goNight_250 : decode cX8_goNight 250 = .ok (.aload_n 0, 1) := by decide +kernel
theorem dX8_goNight_251 : decode cX8_goNight 251 = .ok (.getfield 58, 3) := by decide +kernel
theorem dX8_goNight_254 : decode cX8_goNight 254 = .ok (.iload_n 3, 1) := by decide +kernel
theorem dX8_goNight_255 : decode cX8_goNight 255 = .ok (.iaload, 1) := by decide +kernel
theorem dX8_goNight_256 : decode cX8_goNight 256 = .ok (.ifCond .ne 18, 3) := by decide +kernel
theorem dX8_goNight_259 : decode cX8_goNight 259 = .ok (.iconst 0, 1) := by decide +kernel
theorem dX8_goNight_260 : decode cX8_goNight 260 = .ok (.aload_n 1, 1) := by decide +kernel
theorem dX8_goNight_261 : decode cX8_goNight 261 = .ok (.bipush 8, 2) := by decide +kernel
theorem dX8_goNight_263 : decode cX8_goNight 263 = .ok (.iload_n 3, 1) := by decide +kernel
theorem dX8_goNight_264 : decode cX8_goNight 264 = .ok (.iadd, 1) := by decide +kernel
theorem dX8_goNight_265 : decode cX8_goNight 265 = .ok (.iaload, 1) := by decide +kernel
theorem dX8_goNight_266 : decode cX8_goNight 266 = .ok (.iconst 5, 1) := by decide +kernel
theorem dX8_goNight_267 : decode cX8_goNight 267 = .ok (.isub, 1) := by decide +kernel
theorem dX8_goNight_268 : decode cX8_goNight 268 = .ok (.invokestatic 232, 3) := by decide +kernel
theorem dX8_goNight_271 : decode cX8_goNight 271 = .ok (.goto 21, 3) := by decide +kernel
theorem dX8_goNight_274 : decode cX8_goNight 274 = .ok (.bipush 99, 2) := by decide +kernel
theorem dX8_goNight_276 : decode cX8_goNight 276 = .ok (.aload_n 1, 1) := by decide +kernel
theorem dX8_goNight_277 : decode cX8_goNight 277 = .ok (.bipush 8, 2) := by decide +kernel
theorem dX8_goNight_279 : decode cX8_goNight 279 = .ok (.iload_n 3, 1) := by decide +kernel
theorem dX8_goNight_280 : decode cX8_goNight 280 = .ok (.iadd, 1) := by decide +kernel
theorem dX8_goNight_281 : decode cX8_goNight 281 = .ok (.iaload, 1) := by decide +kernel
theorem dX8_goNight_282 : decode cX8_goNight 282 = .ok (.aload_n 0, 1) := by decide +kernel
theorem dX8_goNight_283 : decode cX8_goNight 283 = .ok (.getfield 61, 3) := by decide +kernel
theorem dX8_goNight_286 : decode cX8_goNight 286 = .ok (.iload_n 3, 1) := by decide +kernel
theorem dX8_goNight_287 : decode cX8_goNight 287 = .ok (.iaload, 1) := by decide +kernel
theorem dX8_goNight_288 : decode cX8_goNight 288 = .ok (.iadd, 1) := by decide +kernel
theorem dX8_goNight_289 : decode cX8_goNight 289 = .ok (.invokestatic 226, 3) := by decide +kernel
theorem dX8_goNight_292 : decode cX8_goNight 292 = .ok (.iastore, 1) := by decide +kernel
theorem dX8_goNight_293 : decode cX8_goNight 293 = .ok (.iinc 3 1, 3) := by decide +kernel
theorem dX8_goNight_296 : decode cX8_goNight 296 = .ok (.goto (-59), 3) := by decide +kernel
theorem dX8_goNight_299 : decode cX8_goNight 299 = .ok (.aload_n 1, 1) := by decide +kernel
theorem dX8_goNight_300 : decode cX8_goNight 300 = .ok (.bipush 25, 2) := by decide +kernel
theorem dX8_goNight_302 : decode cX8_goNight 302 = .ok (.dup2, 1) := by decide +kernel
theorem dX8_goNight_303 : decode cX8_goNight 303 = .ok (.iaload, 1) := by decide +kernel
theorem dX8_goNight_304 : decode cX8_goNight 304 = .ok (.aload_n 0, 1) := by decide +kernel
theorem dX8_goNight_305 : decode cX8_goNight 305 = .ok (.getfield 265, 3) := by decide +kernel
theorem dX8_goNight_308 : decode cX8_goNight 308 = .ok (.invokestatic 221, 3) := by decide +kernel
theorem dX8_goNight_311 : decode cX8_goNight 311 = .ok (.iadd, 1) := by decide +kernel
theorem dX8_goNight_312 : decode cX8_goNight 312 = .ok (.iastore, 1) := by decide +kernel
theorem dX8_goNight_313 : decode cX8_goNight 313 = .ok (.aload_n 1, 1) := by decide +kernel
theorem dX8_goNight_314 : decode cX8_goNight 314 = .ok (.bipush 26, 2) := by decide +kernel
theorem dX8_goNight_316 : decode cX8_goNight 316 = .ok (.dup2, 1) := by decide +kernel
theorem dX8_goNight_317 : decode cX8_goNight 317 = .ok (.iaload, 1) := by decide +kernel
theorem dX8_goNight_318 : decode cX8_goNight 318 = .ok (.aload_n 0, 1) := by decide +kernel
theorem dX8_goNight_319 : decode cX8_goNight 319 = .ok (.getfield 268, 3) := by decide +kernel
theorem dX8_goNight_322 : decode cX8_goNight 322 = .ok (.invokestatic 221, 3) := by decide +kernel
theorem dX8_goNight_325 : decode cX8_goNight 325 = .ok (.iadd, 1) := by decide +kernel
theorem dX8_goNight_326 : decode cX8_goNight 326 = .ok (.iastore, 1) := by decide +kernel
theorem dX8_goNight_327 : decode cX8_goNight 327 = .ok (.aload_n 1, 1) := by decide +kernel
theorem dX8_goNight_328 : decode cX8_goNight 328 = .ok (.bipush 24, 2) := by decide +kernel
theorem dX8_goNight_330 : decode cX8_goNight 330 = .ok (.dup2, 1) := by decide +kernel
theorem dX8_goNight_331 : decode cX8_goNight 331 = .ok (.iaload, 1) := by decide +kernel
theorem dX8_goNight_332 : decode cX8_goNight 332 = .ok (.iconst 1, 1) := by decide +kernel
theorem dX8_goNight_333 : decode cX8_goNight 333 = .ok (.iadd, 1) := by decide +kernel
theorem dX8_goNight_334 : decode cX8_goNight 334 = .ok (.iastore, 1) := by decide +kernel
theorem dX8_goNight_335 : decode cX8_goNight 335 = .ok (.return_, 1) := by decide +kernel
theorem dX8_goNights_0 : decode cX8_goNights 0 = .ok (.iconst 0, 1) := by decide +kernel
theorem dX8_goNights_1 : decode cX8_goNights 1 = .ok (.istore_n 3, 1) := by decide +kernel
theorem dX8_goNights_2 : decode cX8_goNights 2 = .ok (.iload_n 3, 1) := by decide +kernel
theorem dX8_goNights_3 : decode cX8_goNights 3 = .ok (.iload_n 2, 1) := by decide +kernel
theorem dX8_goNights_4 : decode cX8_goNights 4 = .ok (.if_icmp .ge 14, 3) := by decide +kernel
theorem dX8_goNights_7 : decode cX8_goNights 7 = .ok (.aload_n 0, 1) := by decide +kernel
theorem dX8_goNights_8 : decode cX8_goNights 8 = .ok (.aload_n 1, 1) := by decide +kernel
theorem dX8_goNights_9 : decode cX8_goNights 9 = .ok (.invokevirtual 277, 3) := by decide +kernel
theorem dX8_goNights_12 : decode cX8_goNights 12 = .ok (.iinc 3 1, 3) := by decide +kernel
theorem dX8_goNights_15 : decode cX8_goNights 15 = .ok (.goto (-13), 3) := by decide +kernel
theorem dX8_goNights_18 : decode cX8_goNights 18 = .ok (.return_, 1) := by decide +kernel
theorem dX8_goSmooth_0 : decode cX8_goSmooth 0 = .ok (.iload_n 1, 1) := by decide +kernel
theorem dX8_goSmooth_1 : decode cX8_goSmooth 1 = .ok (.aload_n 0, 1) := by decide +kernel
theorem dX8_goSmooth_2 : decode cX8_goSmooth 2 = .ok (.getfield 13, 3) := by decide +kernel
theorem dX8_goSmooth_5 : decode cX8_goSmooth 5 = .ok (.if_icmp .ne 5, 3) := by decide +kernel
theorem dX8_goSmooth_8 : decode cX8_goSmooth 8 = .ok (.iconst 1, 1) := by decide +kernel
theorem dX8_goSmooth_9 : decode cX8_goSmooth 9 = .ok (.ireturn, 1) := by decide +kernel
theorem dX8_goSmooth_10 : decode cX8_goSmooth 10 = .ok (.iconst 0, 1) := by decide +kernel
theorem dX8_goSmooth_11 : decode cX8_goSmooth 11 = .ok (.istore_n 3, 1) := by decide +kernel
theorem dX8_goSmooth_12 : decode cX8_goSmooth 12 = .ok (.iload_n 3, 1) := by decide +kernel
theorem dX8_goSmooth_13 : decode cX8_goSmooth 13 = .ok (.aload_n 0, 1) := by decide +kernel
theorem dX8_goSmooth_14 : decode cX8_goSmooth 14 = .ok (.getfield 120, 3) := by decide +kernel
theorem dX8_goSmooth_17 : decode cX8_goSmooth 17 = .ok (.if_icmp .ge 129, 3) := by decide +kernel
theorem dX8_goSmooth_20 : decode cX8_goSmooth 20 = .ok (.aload_n 0, 1) := by decide +kernel
theorem dX8_goSmooth_21 : decode cX8_goSmooth 21 = .ok (.getfield 67, 3) := by decide +kernel
theorem dX8_goSmooth_24 : decode cX8_goSmooth 24 = .ok (.iload_n 3, 1) := by decide +kernel
theorem dX8_goSmooth_25 : decode cX8_goSmooth 25 = .ok (.iaload, 1) := by decide +kernel
theorem dX8_goSmooth_26 : decode cX8_goSmooth 26 = .ok (.iload_n 1, 1) := by decide +kernel
theorem dX8_goSmooth_27 : decode cX8_goSmooth 27 = .ok (.invokestatic 271, 3) := by decide +kernel
theorem dX8_goSmooth_30 : decode cX8_goSmooth 30 = .ok (.ifCond .eq 110, 3) := by decide +kernel
theorem dX8_goSmooth_33 : decode cX8_goSmooth 33 = .ok (.aload_n 0, 1) := by decide +kernel
theorem dX8_goSmooth_34 : decode cX8_goSmooth 34 = .ok (.getfield 58, 3) := by decide +kernel
theorem dX8_goSmooth_37 : decode cX8_goSmooth 37 = .ok (.iload_n 3, 1) := by decide +kernel
theorem dX8_goSmooth_38 : decode cX8_goSmooth 38 = .ok (.iaload, 1) := by decide +kernel
theorem dX8_goSmooth_39 : decode cX8_goSmooth 39 = .ok (.aload_n 0, 1) := by decide +kernel
theorem dX8_goSmooth_40 : decode cX8_goSmooth 40 = .ok (.getfield 20, 3) := by decide +kernel
theorem dX8_goSmooth_43 : decode cX8_goSmooth 43 = .ok (.iload_n 3, 1) := by decide +kernel
theorem dX8_goSmooth_44 : decode cX8_goSmooth 44 = .ok (.iaload, 1) := by decide +kernel
theorem dX8_goSmooth_45 : decode cX8_goSmooth 45 = .ok (.if_icmp .ne 6, 3) := by decide +kernel
theorem dX8_goSmooth_48 : decode cX8_goSmooth 48 = .ok (.goto 92, 3) := by decide +kernel
theorem dX8_goSmooth_51 : decode cX8_goSmooth 51 = .ok (.iload_n 1, 1) := by decide +kernel
theorem dX8_goSmooth_52 : decode cX8_goSmooth 52 = .ok (.ifCond .ne 7, 3) := by decide +kernel
theorem dX8_goSmooth_55 : decode cX8_goSmooth 55 = .ok (.iconst 0, 1) := by decide +kernel
theorem dX8_goSmooth_56 : decode cX8_goSmooth 56 = .ok (.goto 26, 3) := by decide +kernel
theorem dX8_goSmooth_59 : decode cX8_goSmooth 59 = .ok (.aload_n 0, 1) := by decide +kernel
theorem dX8_goSmooth_60 : decode cX8_goSmooth 60 = .ok (.getfield 23, 3) := by decide +kernel
theorem dX8_goSmooth_63 : decode cX8_goSmooth 63 = .ok (.iload_n 3, 1) := by decide +kernel
theorem dX8_goSmooth_64 : decode cX8_goSmooth 64 = .ok (.iaload, 1) := by decide +kernel
theorem dX8_goSmooth_65 : decode cX8_goSmooth 65 = .ok (.aload_n 0, 1) := by decide +kernel
theorem dX8_goSmooth_66 : decode cX8_goSmooth 66 = .ok (.getfield 23, 3) := by decide +kernel
theorem dX8_goSmooth_69 : decode cX8_goSmooth 69 = .ok (.aload_n 0, 1) := by decide +kernel
theorem dX8_goSmooth_70 : decode cX8_goSmooth 70 = .ok (.getfield 92, 3) := by decide +kernel
theorem dX8_goSmooth_73 : decode cX8_goSmooth 73 = .ok (.iload_n 1, 1) := by decide +kernel
theorem dX8_goSmooth_74 : decode cX8_goSmooth 74 = .ok (.iconst 1, 1) := by decide +kernel
theorem dX8_goSmooth_75 : decode cX8_goSmooth 75 = .ok (.isub, 1) := by decide +kernel
theorem dX8_goSmooth_76 : decode cX8_goSmooth 76 = .ok (.iaload, 1) := by decide +kernel
theorem dX8_goSmooth_77 : decode cX8_goSmooth 77 = .ok (.iaload, 1) := by decide +kernel
theorem dX8_goSmooth_78 : decode cX8_goSmooth 78 = .ok (.isub, 1) := by decide +kernel
theorem dX8_goSmooth_79 : decode cX8_goSmooth 79 = .ok (.invokestatic 274, 3) := by decide +kernel
theorem dX8_goSmooth_82 : decode cX8_goSmooth 82 = .ok (.istore 4, 2) := by decide +kernel
theorem dX8_goSmooth_84 : decode cX8_goSmooth 84 = .ok (.iload 4, 2) := by decide +kernel
theorem dX8_goSmooth_86 : decode cX8_goSmooth 86 = .ok (.iload_n 2, 1) := by decide +kernel
theorem dX8_goSmooth_87 : decode cX8_goSmooth 87 = .ok (.if_icmp .le 6, 3) := by decide +kernel
theorem dX8_goSmooth_90 : decode cX8_goSmooth 90 = .ok (.goto 50, 3) := by decide +kernel
theorem dX8_goSmooth_93 : decode cX8_goSmooth 93 = .ok (.aload_n 0, 1) := by decide +kernel
theorem dX8_goSmooth_94 : decode cX8_goSmooth 94 = .ok (.getfield 92, 3) := by decide +kernel
theorem dX8_goSmooth_97 : decode cX8_goSmooth 97 = .ok (.iload_n 1, 1) := by decide +kernel
theorem dX8_goSmooth_98 : decode cX8_goSmooth 98 = .ok (.iload_n 3, 1) := by decide +kernel
theorem dX8_goSmooth_99 : decode cX8_goSmooth 99 = .ok (.iastore, 1) := by decide +kernel
theorem dX8_goSmooth_100 : decode cX8_goSmooth 100 = .ok (.aload_n 0, 1) := by decide +kernel
theorem dX8_goSmooth_101 : decode cX8_goSmooth 101 = .ok (.getfield 58, 3) := by decide +kernel
theorem dX8_goSmooth_104 : decode cX8_goSmooth 104 = .ok (.iload_n 3, 1) := by decide +kernel
theorem dX8_goSmooth_105 : decode cX8_goSmooth 105 = .ok (.dup2, 1) := by decide +kernel
theorem dX8_goSmooth_106 : decode cX8_goSmooth 106 = .ok (.iaload, 1) := by decide +kernel
theorem dX8_goSmooth_107 : decode cX8_goSmooth 107 = .ok (.iconst 1, 1) := by decide +kernel
theorem dX8_goSmooth_108 : decode cX8_goSmooth 108 = .ok (.iadd, 1) := by decide +kernel
theorem dX8_goSmooth_109 : decode cX8_goSmooth 109 = .ok (.iastore, 1) := by decide +kernel
theorem dX8_goSmooth_110 : decode cX8_goSmooth 110 = .ok (.aload_n 0, 1) := by decide +kernel
theorem dX8_goSmooth_111 : decode cX8_goSmooth 111 = .ok (.iload_n 1, 1) := by decide +kernel
theorem dX8_goSmooth_112 : decode cX8_goSmooth 112 = .ok (.iconst 1, 1) := by decide +kernel
theorem dX8_goSmooth_113 : decode cX8_goSmooth 113 = .ok (.iadd, 1) := by decide +kernel
theorem dX8_goSmooth_114 : decode cX8_goSmooth 114 = .ok (.iload_n 2, 1) := by decide +kernel
theorem dX8_goSmooth_115 : decode cX8_goSmooth 115 = .ok (.iload 4, 2) := by decide +kernel
theorem dX8_goSmooth_117 : decode cX8_goSmooth 117 = .ok (.isub, 1) := by decide +kernel
theorem dX8_goSmooth_118 : decode cX8_goSmooth 118 = .ok (.invokevirtual 359, 3) := by decide +kernel
theorem dX8_goSmooth_121 : decode cX8_goSmooth 121 = .ok (.istore 5, 2) := by decide +kernel
theorem dX8_goSmooth_123 : decode cX8_goSmooth 123 = .ok (.aload_n 0, 1) := by decide +kernel
theorem dX8_goSmooth_124 : decode cX8_goSmooth 124 = .ok (.getfield 58, 3) := by decide +kernel
theorem dX8_goSmooth_127 : decode cX8_goSmooth 127 = .ok (.iload_n 3, 1) := by decide +kernel
theorem dX8_goSmooth_128 : decode cX8_goSmooth 128 = .ok (.dup2, 1) := by decide +kernel
theorem dX8_goSmooth_129 : decode cX8_goSmooth 129 = .ok (.iaload, 1) := by decide +kernel
theorem dX8_goSmooth_130 : decode cX8_goSmooth 130 = .ok (.iconst 1, 1) := by decide +kernel
theorem dX8_goSmooth_131 : decode cX8_goSmooth 131 = .ok (.isub, 1) := by decide +kernel
theorem dX8_goSmooth_132 : decode cX8_goSmooth 132 = .ok (.iastore, 1) := by decide +kernel
theorem dX8_goSmooth_133 : decode cX8_goSmooth 133 = .ok (.iload 5, 2) := by decide +kernel
theorem dX8_goSmooth_135 : decode cX8_goSmooth 135 = .ok (.ifCond .eq 5, 3) := by decide +kernel
theorem dX8_goSmooth_138 : decode cX8_goSmooth 138 = .ok (.iconst 1, 1) := by decide +kernel
theorem dX8_goSmooth_139 : decode cX8_goSmooth 139 = .ok (.ireturn, 1) := by decide +kernel
theorem dX8_goSmooth_140 : decode cX8_goSmooth 140 = .ok (.iinc 3 1, 3) := by decide +kernel
theorem dX8_goSmooth_143 : decode cX8_goSmooth 143 = .ok (.goto (-131), 3) := by decide +kernel
theorem dX8_goSmooth_146 : decode cX8_goSmooth 146 = .ok (.iconst 0, 1) := by decide +kernel
theorem dX8_goSmooth_147 : decode cX8_goSmooth 147 = .ok (.ireturn, 1) := by decide +kernel
theorem dX8_hard_0 : decode cX8_hard 0 = .ok (.aload_n 0, 1) := by decide +kernel
theorem dX8_hard_1 : decode cX8_hard 1 = .ok (.iconst 0, 1) := by decide +kernel
theorem dX8_hard_2 : decode cX8_hard 2 = .ok (.putfield 114, 3) := by decide +kernel
theorem dX8_hard_5 : decode cX8_hard 5 = .ok (.aload_n 0, 1) := by decide +kernel
theorem dX8_hard_6 : decode cX8_hard 6 = .ok (.iload_n 1, 1) := by decide +kernel
theorem dX8_hard_7 : decode cX8_hard 7 = .ok (.invokevirtual 127, 3) := by decide +kernel
theorem dX8_hard_10 : decode cX8_hard 10 = .ok (.ifCond .eq 23, 3) := by decide +kernel
theorem dX8_hard_13 : decode cX8_hard 13 = .ok (.iload_n 2, 1) := by decide +kernel
theorem dX8_hard_14 : decode cX8_hard 14 = .ok (.invokestatic 242, 3) := by decide +kernel
theorem dX8_hard_17 : decode cX8_hard 17 = .ok (.ifCond .eq 16, 3) := by decide +kernel
theorem dX8_hard_20 : decode cX8_hard 20 = .ok (.aload_n 0, 1) := by decide +kernel
theorem dX8_hard_21 : decode cX8_hard 21 = .ok (.aload_n 0, 1) := by decide +kernel
theorem dX8_hard_22 : decode cX8_hard 22 = .ok (.getfield 9, 3) := by decide +kernel
theorem dX8_hard_25 : decode cX8_hard 25 = .ok (.iload_n 1, 1) := by decide +kernel
theorem dX8_hard_26 : decode cX8_hard 26 = .ok (.iload_n 2, 1) := by decide +kernel
theorem dX8_hard_27 : decode cX8_hard 27 = .ok (.invokevirtual 245, 3) := by decide +kernel
theorem dX8_hard_30 : decode cX8_hard 30 = .ok (.goto 4, 3) := by decide +kernel
theorem dX8_hard_33 : decode cX8_hard 33 = .ok (.iconst (-1), 1) := by decide +kernel
theorem dX8_hard_34 : decode cX8_hard 34 = .ok (.ireturn, 1) := by decide +kernel
theorem dX8_hardBy_0 : decode cX8_hardBy 0 = .ok (.iconst 0, 1) := by decide +kernel
theorem dX8_hardBy_1 : decode cX8_hardBy 1 = .ok (.istore_n 3, 1) := by decide +kernel
theorem dX8_hardBy_2 : decode cX8_hardBy 2 = .ok (.iconst 0, 1) := by decide +kernel
theorem dX8_hardBy_3 : decode cX8_hardBy 3 = .ok (.istore 4, 2) := by decide +kernel
theorem dX8_hardBy_5 : decode cX8_hardBy 5 = .ok (.iload 4, 2) := by decide +kernel
theorem dX8_hardBy_7 : decode cX8_hardBy 7 = .ok (.bipush 8, 2) := by decide +kernel
theorem dX8_hardBy_9 : decode cX8_hardBy 9 = .ok (.if_icmp .ge 37, 3) := by decide +kernel
theorem dX8_hardBy_12 : decode cX8_hardBy 12 = .ok (.iload_n 3, 1) := by decide +kernel
theorem dX8_hardBy_13 : decode cX8_hardBy 13 = .ok (.iload_n 2, 1) := by decide +kernel
theorem dX8_hardBy_14 : decode cX8_hardBy 14 = .ok (.iload 4, 2) := by decide +kernel
theorem dX8_hardBy_16 : decode cX8_hardBy 16 = .ok (.invokestatic 271, 3) := by decide +kernel
theorem dX8_hardBy_19 : decode cX8_hardBy 19 = .ok (.ifCond .eq 18, 3) := by decide +kernel
theorem dX8_hardBy_22 : decode cX8_hardBy 22 = .ok (.aload_n 0, 1) := by decide +kernel
theorem dX8_hardBy_23 : decode cX8_hardBy 23 = .ok (.getfield 79, 3) := by decide +kernel
theorem dX8_hardBy_26 : decode cX8_hardBy 26 = .ok (.bipush 8, 2) := by decide +kernel
theorem dX8_hardBy_28 : decode cX8_hardBy 28 = .ok (.iload_n 1, 1) := by decide +kernel
theorem dX8_hardBy_29 : decode cX8_hardBy 29 = .ok (.imul, 1) := by decide +kernel
theorem dX8_hardBy_30 : decode cX8_hardBy 30 = .ok (.iload 4, 2) := by decide +kernel
theorem dX8_hardBy_32 : decode cX8_hardBy 32 = .ok (.iadd, 1) := by decide +kernel
theorem dX8_hardBy_33 : decode cX8_hardBy 33 = .ok (.iaload, 1) := by decide +kernel
theorem dX8_hardBy_34 : decode cX8_hardBy 34 = .ok (.goto 4, 3) := by decide +kernel
theorem dX8_hardBy_37 : decode cX8_hardBy 37 = .ok (.iconst 0, 1) := by decide +kernel
theorem dX8_hardBy_38 : decode cX8_hardBy 38 = .ok (.iadd, 1) := by decide +kernel
theorem dX8_hardBy_39 : decode cX8_hardBy 39 = .ok (.istore_n 3, 1) := by decide +kernel
theorem dX8_hardBy_40 : decode cX8_hardBy 40 = .ok (.iinc 4 1, 3) := by decide +kernel
theorem dX8_hardBy_43 : decode cX8_hardBy 43 = .ok (.goto (-38), 3) := by decide +kernel
theorem dX8_hardBy_46 : decode cX8_hardBy 46 = .ok (.iload_n 3, 1) := by decide +kernel
theorem dX8_hardBy_47 : decode cX8_hardBy 47 = .ok (.ireturn, 1) := by decide +kernel
theorem dX8_hardOf_0 : decode cX8_hardOf 0 = .ok (.aload_n 1, 1) := by decide +kernel
theorem dX8_hardOf_1 : decode cX8_hardOf 1 = .ok (.bipush 8, 2) := by decide +kernel
theorem dX8_hardOf_3 : decode cX8_hardOf 3 = .ok (.iload_n 2, 1) := by decide +kernel
theorem dX8_hardOf_4 : decode cX8_hardOf 4 = .ok (.iadd, 1) := by decide +kernel
theorem dX8_hardOf_5 : decode cX8_hardOf 5 = .ok (.iaload, 1) := by decide +kernel
theorem dX8_hardOf_6 : decode cX8_hardOf 6 = .ok (.aload_n 0, 1) := by decide +kernel
theorem dX8_hardOf_7 : decode cX8_hardOf 7 = .ok (.getfield 23, 3) := by decide +kernel
theorem dX8_hardOf_10 : decode cX8_hardOf 10 = .ok (.iload_n 2, 1) := by decide +kernel
theorem dX8_hardOf_11 : decode cX8_hardOf 11 = .ok (.iaload, 1) := by decide +kernel
theorem dX8_hardOf_12 : decode cX8_hardOf 12 = .ok (.iadd, 1) := by decide +kernel
theorem dX8_hardOf_13 : decode cX8_hardOf 13 = .ok (.iload_n 3, 1) := by decide +kernel
theorem dX8_hardOf_14 : decode cX8_hardOf 14 = .ok (.iconst 5, 1) := by decide +kernel
theorem dX8_hardOf_15 : decode cX8_hardOf 15 = .ok (.if_icmp .le 8, 3) := by decide +kernel
theorem dX8_hardOf_18 : decode cX8_hardOf 18 = .ok (.bipush 9, 2) := by decide +kernel
theorem dX8_hardOf_20 : decode cX8_hardOf 20 = .ok (.goto 4, 3) := by decide +kernel
theorem dX8_hardOf_23 : decode cX8_hardOf 23 = .ok (.iconst 0, 1) := by decide +kernel
theorem dX8_hardOf_24 : decode cX8_hardOf 24 = .ok (.iadd, 1) := by decide +kernel
theorem dX8_hardOf_25 : decode cX8_hardOf 25 = .ok (.istore 4, 2) := by decide +kernel
theorem dX8_hardOf_27 : decode cX8_hardOf 27 = .ok (.aload_n 0, 1) := by decide +kernel
theorem dX8_hardOf_28 : decode cX8_hardOf 28 = .ok (.getfield 218, 3) := by decide +kernel
theorem dX8_hardOf_31 : decode cX8_hardOf 31 = .ok (.ifCond .le 113, 3) := by decide +kernel
theorem dX8_hardOf_34 : decode cX8_hardOf 34 = .ok (.aload_n 0, 1) := by decide +kernel
theorem dX8_hardOf_35 : decode cX8_hardOf 35 = .ok (.getfield 46, 3) := by decide +kernel
theorem dX8_hardOf_38 : decode cX8_hardOf 38 = .ok (.iconst 0, 1) := by decide +kernel
theorem dX8_hardOf_39 : decode cX8_hardOf 39 = .ok (.iload_n 3, 1) := by decide +kernel
theorem dX8_hardOf_40 : decode cX8_hardOf 40 = .ok (.iastore, 1) := by decide +kernel
theorem dX8_hardOf_41 : decode cX8_hardOf 41 = .ok (.aload_n 0, 1) := by decide +kernel
theorem dX8_hardOf_42 : decode cX8_hardOf 42 = .ok (.getfield 46, 3) := by decide +kernel
theorem dX8_hardOf_45 : decode cX8_hardOf 45 = .ok (.iconst 1, 1) := by decide +kernel
theorem dX8_hardOf_46 : decode cX8_hardOf 46 = .ok (.aload_n 1, 1) := by decide +kernel
theorem dX8_hardOf_47 : decode cX8_hardOf 47 = .ok (.bipush 8, 2) := by decide +kernel
theorem dX8_hardOf_49 : decode cX8_hardOf 49 = .ok (.iload_n 2, 1) := by decide +kernel
theorem dX8_hardOf_50 : decode cX8_hardOf 50 = .ok (.iadd, 1) := by decide +kernel
theorem dX8_hardOf_51 : decode cX8_hardOf 51 = .ok (.iaload, 1) := by decide +kernel
theorem dX8_hardOf_52 : decode cX8_hardOf 52 = .ok (.iastore, 1) := by decide +kernel
theorem dX8_hardOf_53 : decode cX8_hardOf 53 = .ok (.aload_n 0, 1) := by decide +kernel
theorem dX8_hardOf_54 : decode cX8_hardOf 54 = .ok (.getfield 46, 3) := by decide +kernel
theorem dX8_hardOf_57 : decode cX8_hardOf 57 = .ok (.iconst 2, 1) := by decide +kernel
theorem dX8_hardOf_58 : decode cX8_hardOf 58 = .ok (.aload_n 0, 1) := by decide +kernel
theorem dX8_hardOf_59 : decode cX8_hardOf 59 = .ok (.getfield 23, 3) := by decide +kernel
theorem dX8_hardOf_62 : decode cX8_hardOf 62 = .ok (.iload_n 2, 1) := by decide +kernel
theorem dX8_hardOf_63 : decode cX8_hardOf 63 = .ok (.iaload, 1) := by decide +kernel
theorem dX8_hardOf_64 : decode cX8_hardOf 64 = .ok (.iastore, 1) := by decide +kernel
theorem dX8_hardOf_65 : decode cX8_hardOf 65 = .ok (.aload_n 0, 1) := by decide +kernel
theorem dX8_hardOf_66 : decode cX8_hardOf 66 = .ok (.getfield 46, 3) := by decide +kernel
theorem dX8_hardOf_69 : decode cX8_hardOf 69 = .ok (.iconst 3, 1) := by decide +kernel
theorem dX8_hardOf_70 : decode cX8_hardOf 70 = .ok (.aload_n 0, 1) := by decide +kernel
theorem dX8_hardOf_71 : decode cX8_hardOf 71 = .ok (.getfield 20, 3) := by decide +kernel
theorem dX8_hardOf_74 : decode cX8_hardOf 74 = .ok (.iload_n 2, 1) := by decide +kernel
theorem dX8_hardOf_75 : decode cX8_hardOf 75 = .ok (.iaload, 1) := by decide +kernel
theorem dX8_hardOf_76 : decode cX8_hardOf 76 = .ok (.iastore, 1) := by decide +kernel
theorem dX8_hardOf_77 : decode cX8_hardOf 77 = .ok (.aload_n 0, 1) := by decide +kernel
theorem dX8_hardOf_78 : decode cX8_hardOf 78 = .ok (.getfield 46, 3) := by decide +kernel
theorem dX8_hardOf_81 : decode cX8_hardOf 81 = .ok (.iconst 4, 1) := by decide +kernel
theorem dX8_hardOf_82 : decode cX8_hardOf 82 = .ok (.iload_n 2, 1) := by decide +kernel
theorem dX8_hardOf_83 : decode cX8_hardOf 83 = .ok (.iastore, 1) := by decide +kernel
theorem dX8_hardOf_84 : decode cX8_hardOf 84 = .ok (.aload_n 0, 1) := by decide +kernel
theorem dX8_hardOf_85 : decode cX8_hardOf 85 = .ok (.getfield 46, 3) := by decide +kernel
theorem dX8_hardOf_88 : decode cX8_hardOf 88 = .ok (.iconst 5, 1) := by decide +kernel
theorem dX8_hardOf_89 : decode cX8_hardOf 89 = .ok (.aload_n 1, 1) := by decide +kernel
theorem dX8_hardOf_90 : decode cX8_hardOf 90 = .ok (.bipush 24, 2) := by decide +kernel
theorem dX8_hardOf_92 : decode cX8_hardOf 92 = .ok (.iaload, 1) := by decide +kernel
theorem dX8_hardOf_93 : decode cX8_hardOf 93 = .ok (.bipush 7, 2) := by decide +kernel
theorem dX8_hardOf_95 : decode cX8_hardOf 95 = .ok (.irem, 1) := by decide +kernel
theorem dX8_hardOf_96 : decode cX8_hardOf 96 = .ok (.iastore, 1) := by decide +kernel
theorem dX8_hardOf_97 : decode cX8_hardOf 97 = .ok (.aload_n 0, 1) := by decide +kernel
theorem dX8_hardOf_98 : decode cX8_hardOf 98 = .ok (.getfield 46, 3) := by decide +kernel
theorem dX8_hardOf_101 : decode cX8_hardOf 101 = .ok (.bipush 6, 2) := by decide +kernel
theorem dX8_hardOf_103 : decode cX8_hardOf 103 = .ok (.aload_n 0, 1) := by decide +kernel
theorem dX8_hardOf_104 : decode cX8_hardOf 104 = .ok (.getfield 26, 3) := by decide +kernel
theorem dX8_hardOf_107 : decode cX8_hardOf 107 = .ok (.iload_n 2, 1) := by decide +kernel
theorem dX8_hardOf_108 : decode cX8_hardOf 108 = .ok (.iaload, 1) := by decide +kernel
theorem dX8_hardOf_109 : decode cX8_hardOf 109 = .ok (.invokestatic 221, 3) := by decide +kernel
theorem dX8_hardOf_112 : decode cX8_hardOf 112 = .ok (.iastore, 1) := by decide +kernel
theorem dX8_hardOf_113 : decode cX8_hardOf 113 = .ok (.aload_n 0, 1) := by decide +kernel
theorem dX8_hardOf_114 : decode cX8_hardOf 114 = .ok (.aload_n 0, 1) := by decide +kernel
theorem dX8_hardOf_115 : decode cX8_hardOf 115 = .ok (.getfield 40, 3) := by decide +kernel
theorem dX8_hardOf_118 : decode cX8_hardOf 118 = .ok (.aload_n 0, 1) := by decide +kernel
theorem dX8_hardOf_119 : decode cX8_hardOf 119 = .ok (.getfield 218, 3) := by decide +kernel
theorem dX8_hardOf_122 : decode cX8_hardOf 122 = .ok (.bipush 40, 2) := by decide +kernel
theorem dX8_hardOf_124 : decode cX8_hardOf 124 = .ok (.invokevirtual 149, 3) := by decide +kernel
theorem dX8_hardOf_127 : decode cX8_hardOf 127 = .ok (.aload_n 0, 1) := by decide +kernel
theorem dX8_hardOf_128 : decode cX8_hardOf 128 = .ok (.iconst 1, 1) := by decide +kernel
theorem dX8_hardOf_129 : decode cX8_hardOf 129 = .ok (.putfield 211, 3) := by decide +kernel
theorem dX8_hardOf_132 : decode cX8_hardOf 132 = .ok (.aload_n 0, 1) := by decide +kernel
theorem dX8_hardOf_133 : decode cX8_hardOf 133 = .ok (.iconst 0, 1) := by decide +kernel
theorem dX8_hardOf_134 : decode cX8_hardOf 134 = .ok (.invokevirtual 198, 3) := by decide +kernel
theorem dX8_hardOf_137 : decode cX8_hardOf 137 = .ok (.istore 4, 2) := by decide +kernel
theorem dX8_hardOf_139 : decode cX8_hardOf 139 = .ok (.aload_n 0, 1) := by decide +kernel
theorem dX8_hardOf_140 : decode cX8_hardOf 140 = .ok (.iconst 0, 1) := by decide +kernel
theorem dX8_hardOf_141 : decode cX8_hardOf 141 = .ok (.putfield 211, 3) := by decide +kernel
theorem dX8_hardOf_144 : decode cX8_hardOf 144 = .ok (.iconst 0, 1) := by decide +kernel
theorem dX8_hardOf_145 : decode cX8_hardOf 145 = .ok (.sipush 999, 3) := by decide +kernel
theorem dX8_hardOf_148 : decode cX8_hardOf 148 = .ok (.iload 4, 2) := by decide +kernel
theorem dX8_hardOf_150 : decode cX8_hardOf 150 = .ok (.invokestatic 226, 3) := by decide +kernel
theorem dX8_hardOf_153 : decode cX8_hardOf 153 = .ok (.invokestatic 232, 3) := by decide +kernel
theorem dX8_hardOf_156 : decode cX8_hardOf 156 = .ok (.ireturn, 1) := by decide +kernel
theorem dX8_hardOfRota_0 : decode cX8_hardOfRota 0 = .ok (.iconst 0, 1) := by decide +kernel
theorem dX8_hardOfRota_1 : decode cX8_hardOfRota 1 = .ok (.istore_n 1, 1) := by decide +kernel
theorem dX8_hardOfRota_2 : decode cX8_hardOfRota 2 = .ok (.iconst 0, 1) := by decide +kernel
theorem dX8_hardOfRota_3 : decode cX8_hardOfRota 3 = .ok (.istore_n 2, 1) := by decide +kernel
theorem dX8_hardOfRota_4 : decode cX8_hardOfRota 4 = .ok (.iload_n 2, 1) := by decide +kernel
theorem dX8_hardOfRota_5 : decode cX8_hardOfRota 5 = .ok (.aload_n 0, 1) := by decide +kernel
theorem dX8_hardOfRota_6 : decode cX8_hardOfRota 6 = .ok (.getfield 13, 3) := by decide +kernel
theorem dX8_hardOfRota_9 : decode cX8_hardOfRota 9 = .ok (.if_icmp .ge 41, 3) := by decide +kernel
theorem dX8_hardOfRota_12 : decode cX8_hardOfRota 12 = .ok (.iload_n 1, 1) := by decide +kernel
theorem dX8_hardOfRota_13 : decode cX8_hardOfRota 13 = .ok (.aload_n 0, 1) := by decide +kernel
theorem dX8_hardOfRota_14 : decode cX8_hardOfRota 14 = .ok (.getfield 9, 3) := by decide +kernel
theorem dX8_hardOfRota_17 : decode cX8_hardOfRota 17 = .ok (.iload_n 2, 1) := by decide +kernel
theorem dX8_hardOfRota_18 : decode cX8_hardOfRota 18 = .ok (.iaload, 1) := by decide +kernel
theorem dX8_hardOfRota_19 : decode cX8_hardOfRota 19 = .ok (.iconst (-1), 1) := by decide +kernel
theorem dX8_hardOfRota_20 : decode cX8_hardOfRota 20 = .ok (.if_icmp .ne 7, 3) := by decide +kernel
theorem dX8_hardOfRota_23 : decode cX8_hardOfRota 23 = .ok (.iconst 0, 1) := by decide +kernel
theorem dX8_hardOfRota_24 : decode cX8_hardOfRota 24 = .ok (.goto 18, 3) := by decide +kernel
theorem dX8_hardOfRota_27 : decode cX8_hardOfRota 27 = .ok (.aload_n 0, 1) := by decide +kernel
theorem dX8_hardOfRota_28 : decode cX8_hardOfRota 28 = .ok (.aload_n 0, 1) := by decide +kernel
theorem dX8_hardOfRota_29 : decode cX8_hardOfRota 29 = .ok (.getfield 9, 3) := by decide +kernel
theorem dX8_hardOfRota_32 : decode cX8_hardOfRota 32 = .ok (.aload_n 0, 1) := by decide +kernel
theorem dX8_hardOfRota_33 : decode cX8_hardOfRota 33 = .ok (.getfield 9, 3) := by decide +kernel
theorem dX8_hardOfRota_36 : decode cX8_hardOfRota 36 = .ok (.iload_n 2, 1) := by decide +kernel
theorem dX8_hardOfRota_37 : decode cX8_hardOfRota 37 = .ok (.iaload, 1) := by decide +kernel
theorem dX8_hardOfRota_38 : decode cX8_hardOfRota 38 = .ok (.iload_n 2, 1) := by decide +kernel
theorem dX8_hardOfRota_39 : decode cX8_hardOfRota 39 = .ok (.invokevirtual 245, 3) := by decide +kernel
theorem dX8_hardOfRota_42 : decode cX8_hardOfRota 42 = .ok (.iadd, 1) := by decide +kernel
theorem dX8_hardOfRota_43 : decode cX8_hardOfRota 43 = .ok (.istore_n 1, 1) := by decide +kernel
theorem dX8_hardOfRota_44 : decode cX8_hardOfRota 44 = .ok (.iinc 2 1, 3) := by decide +kernel
theorem dX8_hardOfRota_47 : decode cX8_hardOfRota 47 = .ok (.goto (-43), 3) := by decide +kernel
theorem dX8_hardOfRota_50 : decode cX8_hardOfRota 50 = .ok (.iload_n 1, 1) := by decide +kernel
theorem dX8_hardOfRota_51 : decode cX8_hardOfRota 51 = .ok (.ireturn, 1) := by decide +kernel
theorem dX8_has_0 : decode cX8_has 0 = .ok (.iload_n 0, 1) := by decide +kernel
theorem dX8_has_1 : decode cX8_has 1 = .ok (.iload_n 1, 1) := by decide +kernel
theorem dX8_has_2 : decode cX8_has 2 = .ok (.ishr, 1) := by decide +kernel
theorem dX8_has_3 : decode cX8_has 3 = .ok (.iconst 1, 1) := by decide +kernel
theorem dX8_has_4 : decode cX8_has 4 = .ok (.iand, 1) := by decide +kernel
theorem dX8_has_5 : decode cX8_has 5 = .ok (.iconst 1, 1) := by decide +kernel
theorem dX8_has_6 : decode cX8_has 6 = .ok (.if_icmp .ne 7, 3) := by decide +kernel
theorem dX8_has_9 : decode cX8_has 9 = .ok (.iconst 1, 1) := by decide +kernel
theorem dX8_has_10 : decode cX8_has 10 = .ok (.goto 4, 3) := by decide +kernel
theorem dX8_has_13 : decode cX8_has 13 = .ok (.iconst 0, 1) := by decide +kernel
theorem dX8_has_14 : decode cX8_has 14 = .ok (.ireturn, 1) := by decide +kernel
theorem dX8_held_0 : decode cX8_held 0 = .ok (.aload_n 0, 1) := by decide +kernel
theorem dX8_held_1 : decode cX8_held 1 = .ok (.iconst 0, 1) := by decide +kernel
theorem dX8_held_2 : decode cX8_held 2 = .ok (.putfield 114, 3) := by decide +kernel
theorem dX8_held_5 : decode cX8_held 5 = .ok (.iload_n 1, 1) := by decide +kernel
theorem dX8_held_6 : decode cX8_held 6 = .ok (.iconst 0, 1) := by decide +kernel
theorem dX8_held_7 : decode cX8_held 7 = .ok (.bipush 10, 2) := by decide +kernel
theorem dX8_held_9 : decode cX8_held 9 = .ok (.invokestatic 123, 3) := by decide +kernel
theorem dX8_held_12 : decode cX8_held 12 = .ok (.ifCond .ne 5, 3) := by decide +kernel
theorem dX8_held_15 : decode cX8_held 15 = .ok (.iconst (-1), 1) := by decide +kernel
theorem dX8_held_16 : decode cX8_held 16 = .ok (.ireturn, 1) := by decide +kernel
theorem dX8_held_17 : decode cX8_held 17 = .ok (.aload_n 0, 1) := by decide +kernel
theorem dX8_held_18 : decode cX8_held 18 = .ok (.invokevirtual 347, 3) := by decide +kernel
theorem dX8_held_21 : decode cX8_held 21 = .ok (.aload_n 0, 1) := by decide +kernel
theorem dX8_held_22 : decode cX8_held 22 = .ok (.aload_n 0, 1) := by decide +kernel
theorem dX8_held_23 : decode cX8_held 23 = .ok (.aload_n 0, 1) := by decide +kernel
theorem dX8_held_24 : decode cX8_held 24 = .ok (.invokevirtual 386, 3) := by decide +kernel
theorem dX8_held_27 : decode cX8_held 27 = .ok (.iload_n 1, 1) := by decide +kernel
theorem dX8_held_28 : decode cX8_held 28 = .ok (.invokevirtual 389, 3) := by decide +kernel
theorem dX8_held_31 : decode cX8_held 31 = .ok (.ldc2_w 393, 3) := by decide +kernel
theorem dX8_held_34 : decode cX8_held 34 = .ok (.aload_n 0, 1) := by decide +kernel
theorem dX8_held_35 : decode cX8_held 35 = .ok (.invokevirtual 386, 3) := by decide +kernel
theorem dX8_held_38 : decode cX8_held 38 = .ok (.invokestatic 221, 3) := by decide +kernel
theorem dX8_held_41 : decode cX8_held 41 = .ok (.invokestatic 382, 3) := by decide +kernel
theorem dX8_held_44 : decode cX8_held 44 = .ok (.invokevirtual 378, 3) := by decide +kernel
theorem dX8_held_47 : decode cX8_held 47 = .ok (.iconst 0, 1) := by decide +kernel
theorem dX8_held_48 : decode cX8_held 48 = .ok (.ireturn, 1) := by decide +kernel
theorem dX8_heldBy_0 : decode cX8_heldBy 0 = .ok (.aload_n 0, 1) := by decide +kernel
theorem dX8_heldBy_1 : decode cX8_heldBy 1 = .ok (.iload_n 1, 1) := by decide +kernel
theorem dX8_heldBy_2 : decode cX8_heldBy 2 = .ok (.invokevirtual 188, 3) := by decide +kernel
theorem dX8_heldBy_5 : decode cX8_heldBy 5 = .ok (.istore_n 2, 1) := by decide +kernel
theorem dX8_heldBy_6 : decode cX8_heldBy 6 = .ok (.aload_n 0, 1) := by decide +kernel
theorem dX8_heldBy_7 : decode cX8_heldBy 7 = .ok (.bipush 60, 2) := by decide +kernel
theorem dX8_heldBy_9 : decode cX8_heldBy 9 = .ok (.invokevirtual 161, 3) := by decide +kernel
theorem dX8_heldBy_12 : decode cX8_heldBy 12 = .ok (.ifCond .eq 18, 3) := by decide +kernel
theorem dX8_heldBy_15 : decode cX8_heldBy 15 = .ok (.iload_n 2, 1) := by decide +kernel
theorem dX8_heldBy_16 : decode cX8_heldBy 16 = .ok (.aload_n 0, 1) := by decide +kernel
theorem dX8_heldBy_17 : decode cX8_heldBy 17 = .ok (.iload_n 1, 1) := by decide +kernel
theorem dX8_heldBy_18 : decode cX8_heldBy 18 = .ok (.invokevirtual 188, 3) := by decide +kernel
theorem dX8_heldBy_21 : decode cX8_heldBy 21 = .ok (.if_icmp .ge 7, 3) := by decide +kernel
theorem dX8_heldBy_24 : decode cX8_heldBy 24 = .ok (.iconst 1, 1) := by decide +kernel
theorem dX8_heldBy_25 : decode cX8_heldBy 25 = .ok (.goto 4, 3) := by decide +kernel
theorem dX8_heldBy_28 : decode cX8_heldBy 28 = .ok (.iconst 0, 1) := by decide +kernel
theorem dX8_heldBy_29 : decode cX8_heldBy 29 = .ok (.ireturn, 1) := by decide +kernel
theorem dX8_heldBy_30 : decode cX8_heldBy 30 = .ok (.aload_n 0, 1) := by decide +kernel
theorem dX8_heldBy_31 : decode cX8_heldBy 31 = .ok (.bipush 62, 2) := by decide +kernel
theorem dX8_heldBy_33 : decode cX8_heldBy 33 = .ok (.invokevirtual 161, 3) := by decide +kernel
theorem dX8_heldBy_36 : decode cX8_heldBy 36 = .ok (.ifCond .eq 18, 3) := by decide +kernel
theorem dX8_heldBy_39 : decode cX8_heldBy 39 = .ok (.iload_n 2, 1) := by decide +kernel
theorem dX8_heldBy_40 : decode cX8_heldBy 40 = .ok (.aload_n 0, 1) := by decide +kernel
theorem dX8_heldBy_41 : decode cX8_heldBy 41 = .ok (.iload_n 1, 1) := by decide +kernel
theorem dX8_heldBy_42 : decode cX8_heldBy 42 = .ok (.invokevirtual 188, 3) := by decide +kernel
theorem dX8_heldBy_45 : decode cX8_heldBy 45 = .ok (.if_icmp .le 7, 3) := by decide +kernel
theorem dX8_heldBy_48 : decode cX8_heldBy 48 = .ok (.iconst 1, 1) := by decide +kernel
theorem dX8_heldBy_49 : decode cX8_heldBy 49 = .ok (.goto 4, 3) := by decide +kernel
theorem dX8_heldBy_52 : decode cX8_heldBy 52 = .ok (.iconst 0, 1) := by decide +kernel
theorem dX8_heldBy_53 : decode cX8_heldBy 53 = .ok (.ireturn, 1) := by decide +kernel
theorem dX8_heldBy_54 : decode cX8_heldBy 54 = .ok (.aload_n 0, 1) := by decide +kernel
theorem dX8_heldBy_55 : decode cX8_heldBy 55 = .ok (.bipush 61, 2) := by decide +kernel
theorem dX8_heldBy_57 : decode cX8_heldBy 57 = .ok (.invokevirtual 161, 3) := by decide +kernel
theorem dX8_heldBy_60 : decode cX8_heldBy 60 = .ok (.ifCond .eq 18, 3) := by decide +kernel
theorem dX8_heldBy_63 : decode cX8_heldBy 63 = .ok (.iload_n 2, 1) := by decide +kernel
theorem dX8_heldBy_64 : decode cX8_heldBy 64 = .ok (.aload_n 0, 1) := by decide +kernel
theorem dX8_heldBy_65 : decode cX8_heldBy 65 = .ok (.iload_n 1, 1) := by decide +kernel
theorem dX8_heldBy_66 : decode cX8_heldBy 66 = .ok (.invokevirtual 188, 3) := by decide +kernel
theorem dX8_heldBy_69 : decode cX8_heldBy 69 = .ok (.if_icmp .ne 7, 3) := by decide +kernel
theorem dX8_heldBy_72 : decode cX8_heldBy 72 = .ok (.iconst 1, 1) := by decide +kernel
theorem dX8_heldBy_73 : decode cX8_heldBy 73 = .ok (.goto 4, 3) := by decide +kernel
theorem dX8_heldBy_76 : decode cX8_heldBy 76 = .ok (.iconst 0, 1) := by decide +kernel
theorem dX8_heldBy_77 : decode cX8_heldBy 77 = .ok (.ireturn, 1) := by decide +kernel
theorem dX8_heldBy_78 : decode cX8_heldBy 78 = .ok (.iload_n 2, 1) := by decide +kernel
theorem dX8_heldBy_79 : decode cX8_heldBy 79 = .ok (.ireturn, 1) := by decide +kernel
theorem dX8_heldParts_0 : decode cX8_heldParts 0 = .ok (.lconst 0, 1) := by decide +kernel
theorem dX8_heldParts_1 : decode cX8_heldParts 1 = .ok (.lstore_n 3, 1) := by decide +kernel
theorem dX8_heldParts_2 : decode cX8_heldParts 2 = .ok (.iload_n 1, 1) := by decide +kernel
theorem dX8_heldParts_3 : decode cX8_heldParts 3 = .ok (.invokestatic 221, 3) := by decide +kernel
theorem dX8_heldParts_6 : decode cX8_heldParts 6 = .ok (.istore 5, 2) := by decide +kernel
theorem dX8_heldParts_8 : decode cX8_heldParts 8 = .ok (.iconst 0, 1) := by decide +kernel
theorem dX8_heldParts_9 : decode cX8_heldParts 9 = .ok (.istore 6, 2) := by decide +kernel
theorem dX8_heldParts_11 : decode cX8_heldParts 11 = .ok (.iload 6, 2) := by decide +kernel
theorem dX8_heldParts_13 : decode cX8_heldParts 13 = .ok (.iload_n 1, 1) := by decide +kernel
theorem dX8_heldParts_14 : decode cX8_heldParts 14 = .ok (.if_icmp .gt 62, 3) := by decide +kernel
theorem dX8_heldParts_17 : decode cX8_heldParts 17 = .ok (.iload 6, 2) := by decide +kernel
theorem dX8_heldParts_19 : decode cX8_heldParts 19 = .ok (.iload_n 1, 1) := by decide +kernel
theorem dX8_heldParts_20 : decode cX8_heldParts 20 = .ok (.iconst (-1), 1) := by decide +kernel
theorem dX8_heldParts_21 : decode cX8_heldParts 21 = .ok (.ixor, 1) := by decide +kernel
theorem dX8_heldParts_22 : decode cX8_heldParts 22 = .ok (.iand, 1) := by decide +kernel
theorem dX8_heldParts_23 : decode cX8_heldParts 23 = .ok (.ifCond .ne 47, 3) := by decide +kernel
theorem dX8_heldParts_26 : decode cX8_heldParts 26 = .ok (.aload_n 0, 1) := by decide +kernel
theorem dX8_heldParts_27 : decode cX8_heldParts 27 = .ok (.getfield 95, 3) := by decide +kernel
theorem dX8_heldParts_30 : decode cX8_heldParts 30 = .ok (.iload 6, 2) := by decide +kernel
theorem dX8_heldParts_32 : decode cX8_heldParts 32 = .ok (.baload, 1) := by decide +kernel
theorem dX8_heldParts_33 : decode cX8_heldParts 33 = .ok (.ifCond .ne 6, 3) := by decide +kernel
theorem dX8_heldParts_36 : decode cX8_heldParts 36 = .ok (.goto 34, 3) := by decide +kernel
theorem dX8_heldParts_39 : decode cX8_heldParts 39 = .ok (.iload 6, 2) := by decide +kernel
