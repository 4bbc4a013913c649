theorem dX7_first_17 : decode cX7_first 17 = .ok (.aload_n 0, 1) := by decide +kernel
theorem dX7_first_18 : decode cX7_first 18 = .ok (.getfield 26, 3) := by decide +kernel
theorem dX7_first_21 : decode cX7_first 21 = .ok (.invokevirtual 170, 3) := by decide +kernel
theorem dX7_first_24 : decode cX7_first 24 = .ok (.iconst 0, 1) := by decide +kernel
theorem dX7_first_25 : decode cX7_first 25 = .ok (.istore_n 2, 1) := by decide +kernel
theorem dX7_first_26 : decode cX7_first 26 = .ok (.iload_n 2, 1) := by decide +kernel
theorem dX7_first_27 : decode cX7_first 27 = .ok (.iload_n 1, 1) := by decide +kernel
theorem dX7_first_28 : decode cX7_first 28 = .ok (.if_icmp .ge 50, 3) := by decide +kernel
theorem dX7_first_31 : decode cX7_first 31 = .ok (.aload_n 0, 1) := by decide +kernel
theorem dX7_first_32 : decode cX7_first 32 = .ok (.getfield 19, 3) := by decide +kernel
theorem dX7_first_35 : decode cX7_first 35 = .ok (.aload_n 0, 1) := by decide +kernel
theorem dX7_first_36 : decode cX7_first 36 = .ok (.getfield 33, 3) := by decide +kernel
theorem dX7_first_39 : decode cX7_first 39 = .ok (.invokevirtual 241, 3) := by decide +kernel
theorem dX7_first_42 : decode cX7_first 42 = .ok (.aload_n 0, 1) := by decide +kernel
theorem dX7_first_43 : decode cX7_first 43 = .ok (.getfield 19, 3) := by decide +kernel
theorem dX7_first_46 : decode cX7_first 46 = .ok (.getfield 235, 3) := by decide +kernel
theorem dX7_first_49 : decode cX7_first 49 = .ok (.ifCond .eq 23, 3) := by decide +kernel
theorem dX7_first_52 : decode cX7_first 52 = .ok (.aload_n 0, 1) := by decide +kernel
theorem dX7_first_53 : decode cX7_first 53 = .ok (.getfield 61, 3) := by decide +kernel
theorem dX7_first_56 : decode cX7_first 56 = .ok (.aload_n 0, 1) := by decide +kernel
theorem dX7_first_57 : decode cX7_first 57 = .ok (.getfield 19, 3) := by decide +kernel
theorem dX7_first_60 : decode cX7_first 60 = .ok (.getfield 235, 3) := by decide +kernel
theorem dX7_first_63 : decode cX7_first 63 = .ok (.invokestatic 244, 3) := by decide +kernel
theorem dX7_first_66 : decode cX7_first 66 = .ok (.i2l, 1) := by decide +kernel
theorem dX7_first_67 : decode cX7_first 67 = .ok (.invokevirtual 247, 3) := by decide +kernel
theorem dX7_first_70 : decode cX7_first 70 = .ok (.iload_n 2, 1) := by decide +kernel
theorem dX7_first_71 : decode cX7_first 71 = .ok (.ireturn, 1) := by decide +kernel
theorem dX7_fits_0 : decode cX7_fits 0 = .ok (.aload_n 0, 1) := by decide +kernel
theorem dX7_fits_1 : decode cX7_fits 1 = .ok (.invokevirtual 348, 3) := by decide +kernel
theorem dX7_fits_4 : decode cX7_fits 4 = .ok (.aload_n 0, 1) := by decide +kernel
theorem dX7_fits_5 : decode cX7_fits 5 = .ok (.invokevirtual 287, 3) := by decide +kernel
theorem dX7_fits_8 : decode cX7_fits 8 = .ok (.ireturn, 1) := by decide +kernel
theorem dX7_forget_0 : decode cX7_forget 0 = .ok (.aload_n 0, 1) := by decide +kernel
theorem dX7_forget_1 : decode cX7_forget 1 = .ok (.getfield 345, 3) := by decide +kernel
theorem dX7_forget_4 : decode cX7_forget 4 = .ok (.istore_n 1, 1) := by decide +kernel
theorem dX7_forget_5 : decode cX7_forget 5 = .ok (.aload_n 0, 1) := by decide +kernel
theorem dX7_forget_6 : decode cX7_forget 6 = .ok (.iconst 0, 1) := by decide +kernel
theorem dX7_forget_7 : decode cX7_forget 7 = .ok (.putfield 345, 3) := by decide +kernel
theorem dX7_forget_10 : decode cX7_forget 10 = .ok (.iload_n 1, 1) := by decide +kernel
theorem dX7_forget_11 : decode cX7_forget 11 = .ok (.ireturn, 1) := by decide +kernel
theorem dX7_found_0 : decode cX7_found 0 = .ok (.iload_n 1, 1) := by decide +kernel
theorem dX7_found_1 : decode cX7_found 1 = .ok (.invokestatic 134, 3) := by decide +kernel
theorem dX7_found_4 : decode cX7_found 4 = .ok (.ifCond .eq 32, 3) := by decide +kernel
theorem dX7_found_7 : decode cX7_found 7 = .ok (.aload_n 0, 1) := by decide +kernel
theorem dX7_found_8 : decode cX7_found 8 = .ok (.getfield 19, 3) := by decide +kernel
theorem dX7_found_11 : decode cX7_found 11 = .ok (.iload_n 2, 1) := by decide +kernel
theorem dX7_found_12 : decode cX7_found 12 = .ok (.invokevirtual 110, 3) := by decide +kernel
theorem dX7_found_15 : decode cX7_found 15 = .ok (.ifCond .eq 21, 3) := by decide +kernel
theorem dX7_found_36 : decode cX7_found 36 = .ok (.iconst (-1), 1) := by decide +kernel
theorem dX7_found_37 : decode cX7_found 37 = .ok (.ireturn, 1) := by decide +kernel
theorem dX7_gaps_0 : decode cX7_gaps 0 = .ok (.aload_n 0, 1) := by decide +kernel
theorem dX7_gaps_1 : decode cX7_gaps 1 = .ok (.getfield 19, 3) := by decide +kernel
theorem dX7_gaps_4 : decode cX7_gaps 4 = .ok (.aload_n 0, 1) := by decide +kernel
theorem dX7_gaps_5 : decode cX7_gaps 5 = .ok (.getfield 26, 3) := by decide +kernel
theorem dX7_gaps_8 : decode cX7_gaps 8 = .ok (.invokevirtual 232, 3) := by decide +kernel
theorem dX7_gaps_11 : decode cX7_gaps 11 = .ok (.aload_n 0, 1) := by decide +kernel
theorem dX7_gaps_12 : decode cX7_gaps 12 = .ok (.getfield 61, 3) := by decide +kernel
theorem dX7_gaps_15 : decode cX7_gaps 15 = .ok (.aload_n 0, 1) := by decide +kernel
theorem dX7_gaps_16 : decode cX7_gaps 16 = .ok (.getfield 19, 3) := by decide +kernel
theorem dX7_gaps_19 : decode cX7_gaps 19 = .ok (.getfield 235, 3) := by decide +kernel
theorem dX7_gaps_22 : decode cX7_gaps 22 = .ok (.invokestatic 193, 3) := by decide +kernel
theorem dX7_gaps_25 : decode cX7_gaps 25 = .ok (.i2l, 1) := by decide +kernel
theorem dX7_gaps_26 : decode cX7_gaps 26 = .ok (.aload_n 0, 1) := by decide +kernel
theorem dX7_gaps_27 : decode cX7_gaps 27 = .ok (.getfield 19, 3) := by decide +kernel
theorem dX7_gaps_30 : decode cX7_gaps 30 = .ok (.getfield 238, 3) := by decide +kernel
theorem dX7_gaps_33 : decode cX7_gaps 33 = .ok (.i2l, 1) := by decide +kernel
theorem dX7_gaps_34 : decode cX7_gaps 34 = .ok (.invokevirtual 208, 3) := by decide +kernel
theorem dX7_gaps_37 : decode cX7_gaps 37 = .ok (.aload_n 0, 1) := by decide +kernel
theorem dX7_gaps_38 : decode cX7_gaps 38 = .ok (.getfield 19, 3) := by decide +kernel
theorem dX7_gaps_41 : decode cX7_gaps 41 = .ok (.getfield 235, 3) := by decide +kernel
theorem dX7_gaps_44 : decode cX7_gaps 44 = .ok (.ireturn, 1) := by decide +kernel
theorem dX7_gapsByTrade_0 : decode cX7_gapsByTrade 0 = .ok (.aload_n 0, 1) := by decide +kernel
theorem dX7_gapsByTrade_1 : decode cX7_gapsByTrade 1 = .ok (.getfield 33, 3) := by decide +kernel
theorem dX7_gapsByTrade_4 : decode cX7_gapsByTrade 4 = .ok (.getfield 183, 3) := by decide +kernel
theorem dX7_gapsByTrade_7 : decode cX7_gapsByTrade 7 = .ok (.iload_n 1, 1) := by decide +kernel
theorem dX7_gapsByTrade_8 : decode cX7_gapsByTrade 8 = .ok (.iaload, 1) := by decide +kernel
theorem dX7_gapsByTrade_9 : decode cX7_gapsByTrade 9 = .ok (.istore_n 3, 1) := by decide +kernel
theorem dX7_gapsByTrade_10 : decode cX7_gapsByTrade 10 = .ok (.aload_n 0, 1) := by decide +kernel
theorem dX7_gapsByTrade_11 : decode cX7_gapsByTrade 11 = .ok (.getfield 33, 3) := by decide +kernel
theorem dX7_gapsByTrade_14 : decode cX7_gapsByTrade 14 = .ok (.getfield 183, 3) := by decide +kernel
theorem dX7_gapsByTrade_17 : decode cX7_gapsByTrade 17 = .ok (.iload_n 2, 1) := by decide +kernel
theorem dX7_gapsByTrade_18 : decode cX7_gapsByTrade 18 = .ok (.iaload, 1) := by decide +kernel
theorem dX7_gapsByTrade_19 : decode cX7_gapsByTrade 19 = .ok (.istore 4, 2) := by decide +kernel
theorem dX7_gapsByTrade_21 : decode cX7_gapsByTrade 21 = .ok (.aload_n 0, 1) := by decide +kernel
theorem dX7_gapsByTrade_22 : decode cX7_gapsByTrade 22 = .ok (.getfield 33, 3) := by decide +kernel
theorem dX7_gapsByTrade_25 : decode cX7_gapsByTrade 25 = .ok (.getfield 183, 3) := by decide +kernel
theorem dX7_gapsByTrade_28 : decode cX7_gapsByTrade 28 = .ok (.iload_n 1, 1) := by decide +kernel
theorem dX7_gapsByTrade_29 : decode cX7_gapsByTrade 29 = .ok (.iload 4, 2) := by decide +kernel
theorem dX7_gapsByTrade_31 : decode cX7_gapsByTrade 31 = .ok (.iastore, 1) := by decide +kernel
theorem dX7_gapsByTrade_32 : decode cX7_gapsByTrade 32 = .ok (.aload_n 0, 1) := by decide +kernel
theorem dX7_gapsByTrade_33 : decode cX7_gapsByTrade 33 = .ok (.getfield 33, 3) := by decide +kernel
theorem dX7_gapsByTrade_36 : decode cX7_gapsByTrade 36 = .ok (.getfield 183, 3) := by decide +kernel
theorem dX7_gapsByTrade_39 : decode cX7_gapsByTrade 39 = .ok (.iload_n 2, 1) := by decide +kernel
theorem dX7_gapsByTrade_40 : decode cX7_gapsByTrade 40 = .ok (.iload_n 3, 1) := by decide +kernel
theorem dX7_gapsByTrade_41 : decode cX7_gapsByTrade 41 = .ok (.iastore, 1) := by decide +kernel
theorem dX7_gapsByTrade_42 : decode cX7_gapsByTrade 42 = .ok (.aload_n 0, 1) := by decide +kernel
theorem dX7_gapsByTrade_43 : decode cX7_gapsByTrade 43 = .ok (.getfield 19, 3) := by decide +kernel
theorem dX7_gapsByTrade_46 : decode cX7_gapsByTrade 46 = .ok (.aload_n 0, 1) := by decide +kernel
theorem dX7_gapsByTrade_47 : decode cX7_gapsByTrade 47 = .ok (.getfield 33, 3) := by decide +kernel
theorem dX7_gapsByTrade_50 : decode cX7_gapsByTrade 50 = .ok (.invokevirtual 232, 3) := by decide +kernel
theorem dX7_gapsByTrade_53 : decode cX7_gapsByTrade 53 = .ok (.aload_n 0, 1) := by decide +kernel
theorem dX7_gapsByTrade_54 : decode cX7_gapsByTrade 54 = .ok (.getfield 33, 3) := by decide +kernel
theorem dX7_gapsByTrade_57 : decode cX7_gapsByTrade 57 = .ok (.getfield 183, 3) := by decide +kernel
theorem dX7_gapsByTrade_60 : decode cX7_gapsByTrade 60 = .ok (.iload_n 1, 1) := by decide +kernel
theorem dX7_gapsByTrade_61 : decode cX7_gapsByTrade 61 = .ok (.iload_n 3, 1) := by decide +kernel
theorem dX7_gapsByTrade_62 : decode cX7_gapsByTrade 62 = .ok (.iastore, 1) := by decide +kernel
theorem dX7_gapsByTrade_63 : decode cX7_gapsByTrade 63 = .ok (.aload_n 0, 1) := by decide +kernel
theorem dX7_gapsByTrade_64 : decode cX7_gapsByTrade 64 = .ok (.getfield 33, 3) := by decide +kernel
theorem dX7_gapsByTrade_67 : decode cX7_gapsByTrade 67 = .ok (.getfield 183, 3) := by decide +kernel
theorem dX7_gapsByTrade_70 : decode cX7_gapsByTrade 70 = .ok (.iload_n 2, 1) := by decide +kernel
theorem dX7_gapsByTrade_71 : decode cX7_gapsByTrade 71 = .ok (.iload 4, 2) := by decide +kernel
theorem dX7_gapsByTrade_73 : decode cX7_gapsByTrade 73 = .ok (.iastore, 1) := by decide +kernel
theorem dX7_gapsByTrade_74 : decode cX7_gapsByTrade 74 = .ok (.aload_n 0, 1) := by decide +kernel
theorem dX7_gapsByTrade_75 : decode cX7_gapsByTrade 75 = .ok (.getfield 19, 3) := by decide +kernel
theorem dX7_gapsByTrade_78 : decode cX7_gapsByTrade 78 = .ok (.getfield 235, 3) := by decide +kernel
theorem dX7_gapsByTrade_81 : decode cX7_gapsByTrade 81 = .ok (.invokestatic 193, 3) := by decide +kernel
theorem dX7_gapsByTrade_84 : decode cX7_gapsByTrade 84 = .ok (.ireturn, 1) := by decide +kernel
theorem dX7_give_0 : decode cX7_give 0 = .ok (.iload_n 1, 1) := by decide +kernel
theorem dX7_give_1 : decode cX7_give 1 = .ok (.invokestatic 134, 3) := by decide +kernel
theorem dX7_give_4 : decode cX7_give 4 = .ok (.ifCond .eq 14, 3) := by decide +kernel
theorem dX7_give_7 : decode cX7_give 7 = .ok (.aload_n 0, 1) := by decide +kernel
theorem dX7_give_8 : decode cX7_give 8 = .ok (.getfield 19, 3) := by decide +kernel
theorem dX7_give_11 : decode cX7_give 11 = .ok (.iload_n 2, 1) := by decide +kernel
theorem dX7_give_12 : decode cX7_give 12 = .ok (.invokevirtual 180, 3) := by decide +kernel
theorem dX7_give_15 : decode cX7_give 15 = .ok (.ifCond .ne 6, 3) := by decide +kernel
theorem dX7_give_18 : decode cX7_give 18 = .ok (.bipush (-2), 2) := by decide +kernel
theorem dX7_give_20 : decode cX7_give 20 = .ok (.ireturn, 1) := by decide +kernel
theorem dX7_give_21 : decode cX7_give 21 = .ok (.aload_n 0, 1) := by decide +kernel
theorem dX7_give_22 : decode cX7_give 22 = .ok (.getfield 39, 3) := by decide +kernel
theorem dX7_give_25 : decode cX7_give 25 = .ok (.aload_n 0, 1) := by decide +kernel
theorem dX7_give_26 : decode cX7_give 26 = .ok (.getfield 26, 3) := by decide +kernel
theorem dX7_give_29 : decode cX7_give 29 = .ok (.invokevirtual 177, 3) := by decide +kernel
theorem dX7_give_32 : decode cX7_give 32 = .ok (.aload_n 0, 1) := by decide +kernel
theorem dX7_give_33 : decode cX7_give 33 = .ok (.getfield 26, 3) := by decide +kernel
theorem dX7_give_36 : decode cX7_give 36 = .ok (.getfield 183, 3) := by decide +kernel
theorem dX7_give_39 : decode cX7_give 39 = .ok (.iload_n 1, 1) := by decide +kernel
theorem dX7_give_40 : decode cX7_give 40 = .ok (.iaload, 1) := by decide +kernel
theorem dX7_give_41 : decode cX7_give 41 = .ok (.istore_n 3, 1) := by decide +kernel
theorem dX7_give_42 : decode cX7_give 42 = .ok (.aload_n 0, 1) := by decide +kernel
theorem dX7_give_43 : decode cX7_give 43 = .ok (.getfield 26, 3) := by decide +kernel
theorem dX7_give_46 : decode cX7_give 46 = .ok (.getfield 183, 3) := by decide +kernel
theorem dX7_give_49 : decode cX7_give 49 = .ok (.iload_n 1, 1) := by decide +kernel
theorem dX7_give_50 : decode cX7_give 50 = .ok (.iload_n 2, 1) := by decide +kernel
theorem dX7_give_51 : decode cX7_give 51 = .ok (.iastore, 1) := by decide +kernel
theorem dX7_give_52 : decode cX7_give 52 = .ok (.iload_n 3, 1) := by decide +kernel
theorem dX7_give_53 : decode cX7_give 53 = .ok (.ireturn, 1) := by decide +kernel
theorem dX7_greatestShared_0 : decode cX7_greatestShared 0 = .ok (.iconst 0, 1) := by decide +kernel
theorem dX7_greatestShared_1 : decode cX7_greatestShared 1 = .ok (.istore 4, 2) := by decide +kernel
theorem dX7_greatestShared_3 : decode cX7_greatestShared 3 = .ok (.iload 4, 2) := by decide +kernel
theorem dX7_greatestShared_5 : decode cX7_greatestShared 5 = .ok (.sipush 128, 3) := by decide +kernel
theorem dX7_greatestShared_8 : decode cX7_greatestShared 8 = .ok (.if_icmp .ge 25, 3) := by decide +kernel
theorem dX7_greatestShared_11 : decode cX7_greatestShared 11 = .ok (.lload_n 2, 1) := by decide +kernel
theorem dX7_greatestShared_12 : decode cX7_greatestShared 12 = .ok (.lconst 0, 1) := by decide +kernel
theorem dX7_greatestShared_13 : decode cX7_greatestShared 13 = .ok (.lcmp, 1) := by decide +kernel
theorem dX7_greatestShared_14 : decode cX7_greatestShared 14 = .ok (.ifCond .eq 19, 3) := by decide +kernel
theorem dX7_greatestShared_17 : decode cX7_greatestShared 17 = .ok (.lload_n 0, 1) := by decide +kernel
theorem dX7_greatestShared_18 : decode cX7_greatestShared 18 = .ok (.lload_n 2, 1) := by decide +kernel
theorem dX7_greatestShared_19 : decode cX7_greatestShared 19 = .ok (.lrem, 1) := by decide +kernel
theorem dX7_greatestShared_20 : decode cX7_greatestShared 20 = .ok (.lstore 5, 2) := by decide +kernel
theorem dX7_greatestShared_22 : decode cX7_greatestShared 22 = .ok (.lload_n 2, 1) := by decide +kernel
theorem dX7_greatestShared_23 : decode cX7_greatestShared 23 = .ok (.lstore_n 0, 1) := by decide +kernel
theorem dX7_greatestShared_24 : decode cX7_greatestShared 24 = .ok (.lload 5, 2) := by decide +kernel
theorem dX7_greatestShared_26 : decode cX7_greatestShared 26 = .ok (.lstore_n 2, 1) := by decide +kernel
theorem dX7_greatestShared_27 : decode cX7_greatestShared 27 = .ok (.iinc 4 1, 3) := by decide +kernel
theorem dX7_greatestShared_30 : decode cX7_greatestShared 30 = .ok (.goto (-27), 3) := by decide +kernel
theorem dX7_greatestShared_33 : decode cX7_greatestShared 33 = .ok (.lload_n 0, 1) := by decide +kernel
theorem dX7_greatestShared_34 : decode cX7_greatestShared 34 = .ok (.lreturn, 1) := by decide +kernel
theorem dX7_hard_0 : decode cX7_hard 0 = .ok (.aload_n 0, 1) := by decide +kernel
theorem dX7_hard_1 : decode cX7_hard 1 = .ok (.getfield 19, 3) := by decide +kernel
theorem dX7_hard_4 : decode cX7_hard 4 = .ok (.iload_n 1, 1) := by decide +kernel
theorem dX7_hard_5 : decode cX7_hard 5 = .ok (.invokevirtual 110, 3) := by decide +kernel
theorem dX7_hard_8 : decode cX7_hard 8 = .ok (.ifCond .eq 10, 3) := by decide +kernel
theorem dX7_hard_18 : decode cX7_hard 18 = .ok (.iconst (-1), 1) := by decide +kernel
theorem dX7_hard_19 : decode cX7_hard 19 = .ok (.ireturn, 1) := by decide +kernel
theorem dX7_hardOfRota_0 : decode cX7_hardOfRota 0 = .ok (.iconst 0, 1) := by decide +kernel
theorem dX7_hardOfRota_1 : decode cX7_hardOfRota 1 = .ok (.istore_n 2, 1) := by decide +kernel
theorem dX7_hardOfRota_2 : decode cX7_hardOfRota 2 = .ok (.iconst 0, 1) := by decide +kernel
theorem dX7_hardOfRota_3 : decode cX7_hardOfRota 3 = .ok (.istore_n 3, 1) := by decide +kernel
theorem dX7_hardOfRota_4 : decode cX7_hardOfRota 4 = .ok (.iload_n 3, 1) := by decide +kernel
theorem dX7_hardOfRota_5 : decode cX7_hardOfRota 5 = .ok (.aload_n 0, 1) := by decide +kernel
theorem dX7_hardOfRota_6 : decode cX7_hardOfRota 6 = .ok (.getfield 19, 3) := by decide +kernel
theorem dX7_hardOfRota_9 : decode cX7_hardOfRota 9 = .ok (.getfield 141, 3) := by decide +kernel
theorem dX7_hardOfRota_12 : decode cX7_hardOfRota 12 = .ok (.if_icmp .ge 54, 3) := by decide +kernel
theorem dX7_hardOfRota_15 : decode cX7_hardOfRota 15 = .ok (.aload_n 0, 1) := by decide +kernel
theorem dX7_hardOfRota_16 : decode cX7_hardOfRota 16 = .ok (.getfield 26, 3) := by decide +kernel
theorem dX7_hardOfRota_19 : decode cX7_hardOfRota 19 = .ok (.getfield 183, 3) := by decide +kernel
theorem dX7_hardOfRota_22 : decode cX7_hardOfRota 22 = .ok (.iload_n 3, 1) := by decide +kernel
theorem dX7_hardOfRota_23 : decode cX7_hardOfRota 23 = .ok (.iaload, 1) := by decide +kernel
theorem dX7_hardOfRota_24 : decode cX7_hardOfRota 24 = .ok (.istore 4, 2) := by decide +kernel
theorem dX7_hardOfRota_26 : decode cX7_hardOfRota 26 = .ok (.iload_n 2, 1) := by decide +kernel
theorem dX7_hardOfRota_27 : decode cX7_hardOfRota 27 = .ok (.aload_n 0, 1) := by decide +kernel
theorem dX7_hardOfRota_28 : decode cX7_hardOfRota 28 = .ok (.getfield 19, 3) := by decide +kernel
theorem dX7_hardOfRota_31 : decode cX7_hardOfRota 31 = .ok (.iload 4, 2) := by decide +kernel
theorem dX7_hardOfRota_33 : decode cX7_hardOfRota 33 = .ok (.invokevirtual 110, 3) := by decide +kernel
theorem dX7_hardOfRota_36 : decode cX7_hardOfRota 36 = .ok (.ifCond .eq 21, 3) := by decide +kernel
theorem dX7_hardOfRota_57 : decode cX7_hardOfRota 57 = .ok (.iconst 0, 1) := by decide +kernel
theorem dX7_hardOfRota_58 : decode cX7_hardOfRota 58 = .ok (.iadd, 1) := by decide +kernel
theorem dX7_hardOfRota_59 : decode cX7_hardOfRota 59 = .ok (.istore_n 2, 1) := by decide +kernel
theorem dX7_hardOfRota_60 : decode cX7_hardOfRota 60 = .ok (.iinc 3 1, 3) := by decide +kernel
theorem dX7_hardOfRota_63 : decode cX7_hardOfRota 63 = .ok (.goto (-59), 3) := by decide +kernel
theorem dX7_hardOfRota_66 : decode cX7_hardOfRota 66 = .ok (.iload_n 2, 1) := by decide +kernel
theorem dX7_hardOfRota_67 : decode cX7_hardOfRota 67 = .ok (.ireturn, 1) := by decide +kernel
theorem dX7_held_0 : decode cX7_held 0 = .ok (.iload_n 1, 1) := by decide +kernel
theorem dX7_held_1 : decode cX7_held 1 = .ok (.ifCond .lt 9, 3) := by decide +kernel
theorem dX7_held_4 : decode cX7_held 4 = .ok (.iload_n 1, 1) := by decide +kernel
theorem dX7_held_5 : decode cX7_held 5 = .ok (.bipush 10, 2) := by decide +kernel
theorem dX7_held_7 : decode cX7_held 7 = .ok (.if_icmp .le 5, 3) := by decide +kernel
theorem dX7_held_10 : decode cX7_held 10 = .ok (.iconst (-1), 1) := by decide +kernel
theorem dX7_held_11 : decode cX7_held 11 = .ok (.ireturn, 1) := by decide +kernel
theorem dX7_held_12 : decode cX7_held 12 = .ok (.aload_n 0, 1) := by decide +kernel
theorem dX7_held_13 : decode cX7_held 13 = .ok (.iconst (-1), 1) := by decide +kernel
theorem dX7_held_14 : decode cX7_held 14 = .ok (.invokevirtual 268, 3) := by decide +kernel
theorem dX7_held_17 : decode cX7_held 17 = .ok (.aload_n 0, 1) := by decide +kernel
theorem dX7_held_18 : decode cX7_held 18 = .ok (.getfield 54, 3) := by decide +kernel
theorem dX7_held_21 : decode cX7_held 21 = .ok (.invokevirtual 367, 3) := by decide +kernel
theorem dX7_held_24 : decode cX7_held 24 = .ok (.aload_n 0, 1) := by decide +kernel
theorem dX7_held_25 : decode cX7_held 25 = .ok (.aload_n 0, 1) := by decide +kernel
theorem dX7_held_26 : decode cX7_held 26 = .ok (.aload_n 0, 1) := by decide +kernel
theorem dX7_held_27 : decode cX7_held 27 = .ok (.invokevirtual 313, 3) := by decide +kernel
theorem dX7_held_30 : decode cX7_held 30 = .ok (.iload_n 1, 1) := by decide +kernel
theorem dX7_held_31 : decode cX7_held 31 = .ok (.invokevirtual 370, 3) := by decide +kernel
theorem dX7_held_34 : decode cX7_held 34 = .ok (.bipush 10, 2) := by decide +kernel
theorem dX7_held_36 : decode cX7_held 36 = .ok (.aload_n 0, 1) := by decide +kernel
theorem dX7_held_37 : decode cX7_held 37 = .ok (.invokevirtual 313, 3) := by decide +kernel
theorem dX7_held_40 : decode cX7_held 40 = .ok (.invokestatic 193, 3) := by decide +kernel
theorem dX7_held_43 : decode cX7_held 43 = .ok (.invokestatic 374, 3) := by decide +kernel
theorem dX7_held_46 : decode cX7_held 46 = .ok (.invokevirtual 358, 3) := by decide +kernel
theorem dX7_held_49 : decode cX7_held 49 = .ok (.iconst 0, 1) := by decide +kernel
theorem dX7_held_50 : decode cX7_held 50 = .ok (.ireturn, 1) := by decide +kernel
theorem dX7_ill_0 : decode cX7_ill 0 = .ok (.aload_n 0, 1) := by decide +kernel
theorem dX7_ill_1 : decode cX7_ill 1 = .ok (.getfield 19, 3) := by decide +kernel
theorem dX7_ill_4 : decode cX7_ill 4 = .ok (.iload_n 1, 1) := by decide +kernel
theorem dX7_ill_5 : decode cX7_ill 5 = .ok (.invokevirtual 110, 3) := by decide +kernel
theorem dX7_ill_8 : decode cX7_ill 8 = .ok (.ifCond .ne 5, 3) := by decide +kernel
theorem dX7_ill_11 : decode cX7_ill 11 = .ok (.iconst (-1), 1) := by decide +kernel
theorem dX7_ill_12 : decode cX7_ill 12 = .ok (.ireturn, 1) := by decide +kernel
theorem dX7_init_0 : decode cX7_init 0 = .ok (.aload_n 0, 1) := by decide +kernel
theorem dX7_init_1 : decode cX7_init 1 = .ok (.invokespecial 1, 3) := by decide +kernel
theorem dX7_init_4 : decode cX7_init 4 = .ok (.aload_n 0, 1) := by decide +kernel
theorem dX7_init_5 : decode cX7_init 5 = .ok (.new 7, 3) := by decide +kernel
theorem dX7_init_8 : decode cX7_init 8 = .ok (.dup, 1) := by decide +kernel
theorem dX7_init_9 : decode cX7_init 9 = .ok (.invokespecial 9, 3) := by decide +kernel
theorem dX7_init_12 : decode cX7_init 12 = .ok (.putfield 10, 3) := by decide +kernel
theorem dX7_init_15 : decode cX7_init 15 = .ok (.aload_n 0, 1) := by decide +kernel
theorem dX7_init_16 : decode cX7_init 16 = .ok (.new 16, 3) := by decide +kernel
theorem dX7_init_19 : decode cX7_init 19 = .ok (.dup, 1) := by decide +kernel
theorem dX7_init_20 : decode cX7_init 20 = .ok (.invokespecial 18, 3) := by decide +kernel
theorem dX7_init_23 : decode cX7_init 23 = .ok (.putfield 19, 3) := by decide +kernel
theorem dX7_init_26 : decode cX7_init 26 = .ok (.aload_n 0, 1) := by decide +kernel
theorem dX7_init_27 : decode cX7_init 27 = .ok (.new 23, 3) := by decide +kernel
theorem dX7_init_30 : decode cX7_init 30 = .ok (.dup, 1) := by decide +kernel
theorem dX7_init_31 : decode cX7_init 31 = .ok (.invokespecial 25, 3) := by decide +kernel
theorem dX7_init_34 : decode cX7_init 34 = .ok (.putfield 26, 3) := by decide +kernel
theorem dX7_init_37 : decode cX7_init 37 = .ok (.aload_n 0, 1) := by decide +kernel
theorem dX7_init_38 : decode cX7_init 38 = .ok (.new 23, 3) := by decide +kernel
theorem dX7_init_41 : decode cX7_init 41 = .ok (.dup, 1) := by decide +kernel
theorem dX7_init_42 : decode cX7_init 42 = .ok (.invokespecial 25, 3) := by decide +kernel
theorem dX7_init_45 : decode cX7_init 45 = .ok (.putfield 30, 3) := by decide +kernel
theorem dX7_init_48 : decode cX7_init 48 = .ok (.aload_n 0, 1) := by decide +kernel
theorem dX7_init_49 : decode cX7_init 49 = .ok (.new 23, 3) := by decide +kernel
theorem dX7_init_52 : decode cX7_init 52 = .ok (.dup, 1) := by decide +kernel
theorem dX7_init_53 : decode cX7_init 53 = .ok (.invokespecial 25, 3) := by decide +kernel
theorem dX7_init_56 : decode cX7_init 56 = .ok (.putfield 33, 3) := by decide +kernel
theorem dX7_init_59 : decode cX7_init 59 = .ok (.aload_n 0, 1) := by decide +kernel
theorem dX7_init_60 : decode cX7_init 60 = .ok (.new 36, 3) := by decide +kernel
theorem dX7_init_63 : decode cX7_init 63 = .ok (.dup, 1) := by decide +kernel
theorem dX7_init_64 : decode cX7_init 64 = .ok (.invokespecial 38, 3) := by decide +kernel
theorem dX7_init_67 : decode cX7_init 67 = .ok (.putfield 39, 3) := by decide +kernel
theorem dX7_init_70 : decode cX7_init 70 = .ok (.aload_n 0, 1) := by decide +kernel
theorem dX7_init_71 : decode cX7_init 71 = .ok (.iconst 2, 1) := by decide +kernel
theorem dX7_init_72 : decode cX7_init 72 = .ok (.anewarray 23, 3) := by decide +kernel
theorem dX7_init_75 : decode cX7_init 75 = .ok (.putfield 43, 3) := by decide +kernel
theorem dX7_init_78 : decode cX7_init 78 = .ok (.aload_n 0, 1) := by decide +kernel
theorem dX7_init_79 : decode cX7_init 79 = .ok (.iconst 2, 1) := by decide +kernel
theorem dX7_init_80 : decode cX7_init 80 = .ok (.newarray .boolean, 2) := by decide +kernel
theorem dX7_init_82 : decode cX7_init 82 = .ok (.putfield 47, 3) := by decide +kernel
theorem dX7_init_85 : decode cX7_init 85 = .ok (.aload_n 0, 1) := by decide +kernel
theorem dX7_init_86 : decode cX7_init 86 = .ok (.new 51, 3) := by decide +kernel
theorem dX7_init_89 : decode cX7_init 89 = .ok (.dup, 1) := by decide +kernel
theorem dX7_init_90 : decode cX7_init 90 = .ok (.invokespecial 53, 3) := by decide +kernel
theorem dX7_init_93 : decode cX7_init 93 = .ok (.putfield 54, 3) := by decide +kernel
theorem dX7_init_96 : decode cX7_init 96 = .ok (.aload_n 0, 1) := by decide +kernel
theorem dX7_init_97 : decode cX7_init 97 = .ok (.new 58, 3) := by decide +kernel
theorem dX7_init_100 : decode cX7_init 100 = .ok (.dup, 1) := by decide +kernel
theorem dX7_init_101 : decode cX7_init 101 = .ok (.invokespecial 60, 3) := by decide +kernel
theorem dX7_init_104 : decode cX7_init 104 = .ok (.putfield 61, 3) := by decide +kernel
theorem dX7_init_107 : decode cX7_init 107 = .ok (.aload_n 0, 1) := by decide +kernel
theorem dX7_init_108 : decode cX7_init 108 = .ok (.bipush 12, 2) := by decide +kernel
theorem dX7_init_110 : decode cX7_init 110 = .ok (.newarray .int, 2) := by decide +kernel
theorem dX7_init_112 : decode cX7_init 112 = .ok (.putfield 65, 3) := by decide +kernel
theorem dX7_init_115 : decode cX7_init 115 = .ok (.aload_n 0, 1) := by decide +kernel
theorem dX7_init_116 : decode cX7_init 116 = .ok (.bipush 12, 2) := by decide +kernel
theorem dX7_init_118 : decode cX7_init 118 = .ok (.newarray .int, 2) := by decide +kernel
theorem dX7_init_120 : decode cX7_init 120 = .ok (.putfield 69, 3) := by decide +kernel
theorem dX7_init_123 : decode cX7_init 123 = .ok (.aload_n 0, 1) := by decide +kernel
theorem dX7_init_124 : decode cX7_init 124 = .ok (.bipush 12, 2) := by decide +kernel
theorem dX7_init_126 : decode cX7_init 126 = .ok (.newarray .int, 2) := by decide +kernel
theorem dX7_init_128 : decode cX7_init 128 = .ok (.putfield 72, 3) := by decide +kernel
theorem dX7_init_131 : decode cX7_init 131 = .ok (.aload_n 0, 1) := by decide +kernel
theorem dX7_init_132 : decode cX7_init 132 = .ok (.new 75, 3) := by decide +kernel
theorem dX7_init_135 : decode cX7_init 135 = .ok (.dup, 1) := by decide +kernel
theorem dX7_init_136 : decode cX7_init 136 = .ok (.invokespecial 77, 3) := by decide +kernel
theorem dX7_init_139 : decode cX7_init 139 = .ok (.putfield 78, 3) := by decide +kernel
theorem dX7_init_142 : decode cX7_init 142 = .ok (.iconst 0, 1) := by decide +kernel
theorem dX7_init_143 : decode cX7_init 143 = .ok (.istore_n 1, 1) := by decide +kernel
theorem dX7_init_144 : decode cX7_init 144 = .ok (.iload_n 1, 1) := by decide +kernel
theorem dX7_init_145 : decode cX7_init 145 = .ok (.iconst 2, 1) := by decide +kernel
theorem dX7_init_146 : decode cX7_init 146 = .ok (.if_icmp .ge 22, 3) := by decide +kernel
theorem dX7_init_149 : decode cX7_init 149 = .ok (.aload_n 0, 1) := by decide +kernel
theorem dX7_init_150 : decode cX7_init 150 = .ok (.getfield 43, 3) := by decide +kernel
theorem dX7_init_153 : decode cX7_init 153 = .ok (.iload_n 1, 1) := by decide +kernel
theorem dX7_init_154 : decode cX7_init 154 = .ok (.new 23, 3) := by decide +kernel
theorem dX7_init_157 : decode cX7_init 157 = .ok (.dup, 1) := by decide +kernel
theorem dX7_init_158 : decode cX7_init 158 = .ok (.invokespecial 25, 3) := by decide +kernel
theorem dX7_init_161 : decode cX7_init 161 = .ok (.aastore, 1) := by decide +kernel
theorem dX7_init_162 : decode cX7_init 162 = .ok (.iinc 1 1, 3) := by decide +kernel
theorem dX7_init_165 : decode cX7_init 165 = .ok (.goto (-21), 3) := by decide +kernel
theorem dX7_init_168 : decode cX7_init 168 = .ok (.return_, 1) := by decide +kernel
theorem dX7_isAtRest_0 : decode cX7_isAtRest 0 = .ok (.iload_n 0, 1) := by decide +kernel
theorem dX7_isAtRest_1 : decode cX7_isAtRest 1 = .ok (.iload_n 1, 1) := by decide +kernel
theorem dX7_isAtRest_2 : decode cX7_isAtRest 2 = .ok (.if_icmp .lt 9, 3) := by decide +kernel
theorem dX7_isAtRest_5 : decode cX7_isAtRest 5 = .ok (.iload_n 2, 1) := by decide +kernel
theorem dX7_isAtRest_6 : decode cX7_isAtRest 6 = .ok (.iload_n 1, 1) := by decide +kernel
theorem dX7_isAtRest_7 : decode cX7_isAtRest 7 = .ok (.isub, 1) := by decide +kernel
theorem dX7_isAtRest_8 : decode cX7_isAtRest 8 = .ok (.goto 4, 3) := by decide +kernel
theorem dX7_isAtRest_11 : decode cX7_isAtRest 11 = .ok (.iconst 0, 1) := by decide +kernel
theorem dX7_isAtRest_12 : decode cX7_isAtRest 12 = .ok (.istore 4, 2) := by decide +kernel
theorem dX7_isAtRest_14 : decode cX7_isAtRest 14 = .ok (.iload_n 1, 1) := by decide +kernel
theorem dX7_isAtRest_15 : decode cX7_isAtRest 15 = .ok (.iload_n 0, 1) := by decide +kernel
theorem dX7_isAtRest_16 : decode cX7_isAtRest 16 = .ok (.if_icmp .le 9, 3) := by decide +kernel
theorem dX7_isAtRest_19 : decode cX7_isAtRest 19 = .ok (.iload_n 3, 1) := by decide +kernel
theorem dX7_isAtRest_20 : decode cX7_isAtRest 20 = .ok (.iload_n 0, 1) := by decide +kernel
theorem dX7_isAtRest_21 : decode cX7_isAtRest 21 = .ok (.isub, 1) := by decide +kernel
theorem dX7_isAtRest_22 : decode cX7_isAtRest 22 = .ok (.goto 4, 3) := by decide +kernel
theorem dX7_isAtRest_25 : decode cX7_isAtRest 25 = .ok (.iconst 0, 1) := by decide +kernel
theorem dX7_isAtRest_26 : decode cX7_isAtRest 26 = .ok (.istore 5, 2) := by decide +kernel
theorem dX7_isAtRest_28 : decode cX7_isAtRest 28 = .ok (.iconst 0, 1) := by decide +kernel
theorem dX7_isAtRest_29 : decode cX7_isAtRest 29 = .ok (.istore 6, 2) := by decide +kernel
theorem dX7_isAtRest_31 : decode cX7_isAtRest 31 = .ok (.iload 6, 2) := by decide +kernel
theorem dX7_isAtRest_33 : decode cX7_isAtRest 33 = .ok (.bipush 10, 2) := by decide +kernel
theorem dX7_isAtRest_35 : decode cX7_isAtRest 35 = .ok (.if_icmp .ge 47, 3) := by decide +kernel
theorem dX7_isAtRest_38 : decode cX7_isAtRest 38 = .ok (.iload 6, 2) := by decide +kernel
theorem dX7_isAtRest_40 : decode cX7_isAtRest 40 = .ok (.iload_n 1, 1) := by decide +kernel
theorem dX7_isAtRest_41 : decode cX7_isAtRest 41 = .ok (.if_icmp .lt 9, 3) := by decide +kernel
theorem dX7_isAtRest_44 : decode cX7_isAtRest 44 = .ok (.iload_n 2, 1) := by decide +kernel
theorem dX7_isAtRest_45 : decode cX7_isAtRest 45 = .ok (.iload_n 1, 1) := by decide +kernel
theorem dX7_isAtRest_46 : decode cX7_isAtRest 46 = .ok (.isub, 1) := by decide +kernel
theorem dX7_isAtRest_47 : decode cX7_isAtRest 47 = .ok (.goto 4, 3) := by decide +kernel
theorem dX7_isAtRest_50 : decode cX7_isAtRest 50 = .ok (.iconst 0, 1) := by decide +kernel
theorem dX7_isAtRest_51 : decode cX7_isAtRest 51 = .ok (.iload 4, 2) := by decide +kernel
theorem dX7_isAtRest_53 : decode cX7_isAtRest 53 = .ok (.if_icmp .gt 21, 3) := by decide +kernel
theorem dX7_isAtRest_56 : decode cX7_isAtRest 56 = .ok (.iload 6, 2) := by decide +kernel
theorem dX7_isAtRest_58 : decode cX7_isAtRest 58 = .ok (.iload_n 0, 1) := by decide +kernel
theorem dX7_isAtRest_59 : decode cX7_isAtRest 59 = .ok (.if_icmp .le 9, 3) := by decide +kernel
theorem dX7_isAtRest_62 : decode cX7_isAtRest 62 = .ok (.iload_n 3, 1) := by decide +kernel
theorem dX7_isAtRest_63 : decode cX7_isAtRest 63 = .ok (.iload_n 0, 1) := by decide +kernel
theorem dX7_isAtRest_64 : decode cX7_isAtRest 64 = .ok (.isub, 1) := by decide +kernel
theorem dX7_isAtRest_65 : decode cX7_isAtRest 65 = .ok (.goto 4, 3) := by decide +kernel
theorem dX7_isAtRest_68 : decode cX7_isAtRest 68 = .ok (.iconst 0, 1) := by decide +kernel
theorem dX7_isAtRest_69 : decode cX7_isAtRest 69 = .ok (.iload 5, 2) := by decide +kernel
theorem dX7_isAtRest_71 : decode cX7_isAtRest 71 = .ok (.if_icmp .le 5, 3) := by decide +kernel
theorem dX7_isAtRest_74 : decode cX7_isAtRest 74 = .ok (.iconst 0, 1) := by decide +kernel
theorem dX7_isAtRest_75 : decode cX7_isAtRest 75 = .ok (.ireturn, 1) := by decide +kernel
theorem dX7_isAtRest_76 : decode cX7_isAtRest 76 = .ok (.iinc 6 1, 3) := by decide +kernel
theorem dX7_isAtRest_79 : decode cX7_isAtRest 79 = .ok (.goto (-48), 3) := by decide +kernel
theorem dX7_isAtRest_82 : decode cX7_isAtRest 82 = .ok (.iconst 1, 1) := by decide +kernel
theorem dX7_isAtRest_83 : decode cX7_isAtRest 83 = .ok (.ireturn, 1) := by decide +kernel
theorem dX7_isDigit_0 : decode cX7_isDigit 0 = .ok (.iload_n 0, 1) := by decide +kernel
theorem dX7_isDigit_1 : decode cX7_isDigit 1 = .ok (.bipush 48, 2) := by decide +kernel
theorem dX7_isDigit_3 : decode cX7_isDigit 3 = .ok (.if_icmp .lt 13, 3) := by decide +kernel
theorem dX7_isDigit_6 : decode cX7_isDigit 6 = .ok (.iload_n 0, 1) := by decide +kernel
theorem dX7_isDigit_7 : decode cX7_isDigit 7 = .ok (.bipush 57, 2) := by decide +kernel
theorem dX7_isDigit_9 : decode cX7_isDigit 9 = .ok (.if_icmp .gt 7, 3) := by decide +kernel
theorem dX7_isDigit_12 : decode cX7_isDigit 12 = .ok (.iconst 1, 1) := by decide +kernel
theorem dX7_isDigit_13 : decode cX7_isDigit 13 = .ok (.goto 4, 3) := by decide +kernel
theorem dX7_isDigit_16 : decode cX7_isDigit 16 = .ok (.iconst 0, 1) := by decide +kernel
theorem dX7_isDigit_17 : decode cX7_isDigit 17 = .ok (.ireturn, 1) := by decide +kernel
theorem dX7_isHour_0 : decode cX7_isHour 0 = .ok (.iload_n 0, 1) := by decide +kernel
theorem dX7_isHour_1 : decode cX7_isHour 1 = .ok (.ifCond .lt 13, 3) := by decide +kernel
theorem dX7_isHour_4 : decode cX7_isHour 4 = .ok (.iload_n 0, 1) := by decide +kernel
theorem dX7_isHour_5 : decode cX7_isHour 5 = .ok (.bipush 8, 2) := by decide +kernel
theorem dX7_isHour_7 : decode cX7_isHour 7 = .ok (.if_icmp .ge 7, 3) := by decide +kernel
theorem dX7_isHour_10 : decode cX7_isHour 10 = .ok (.iconst 1, 1) := by decide +kernel
theorem dX7_isHour_11 : decode cX7_isHour 11 = .ok (.goto 4, 3) := by decide +kernel
theorem dX7_isHour_14 : decode cX7_isHour 14 = .ok (.iconst 0, 1) := by decide +kernel
theorem dX7_isHour_15 : decode cX7_isHour 15 = .ok (.ireturn, 1) := by decide +kernel
theorem dX7_keep_0 : decode cX7_keep 0 = .ok (.iload_n 1, 1) := by decide +kernel
theorem dX7_keep_1 : decode cX7_keep 1 = .ok (.ifCond .lt 8, 3) := by decide +kernel
theorem dX7_keep_4 : decode cX7_keep 4 = .ok (.iload_n 1, 1) := by decide +kernel
theorem dX7_keep_5 : decode cX7_keep 5 = .ok (.iconst 2, 1) := by decide +kernel
theorem dX7_keep_6 : decode cX7_keep 6 = .ok (.if_icmp .lt 5, 3) := by decide +kernel
theorem dX7_keep_9 : decode cX7_keep 9 = .ok (.iconst 0, 1) := by decide +kernel
theorem dX7_keep_10 : decode cX7_keep 10 = .ok (.ireturn, 1) := by decide +kernel
theorem dX7_keep_11 : decode cX7_keep 11 = .ok (.aload_n 0, 1) := by decide +kernel
theorem dX7_keep_12 : decode cX7_keep 12 = .ok (.getfield 43, 3) := by decide +kernel
theorem dX7_keep_15 : decode cX7_keep 15 = .ok (.iload_n 1, 1) := by decide +kernel
theorem dX7_keep_16 : decode cX7_keep 16 = .ok (.aaload, 1) := by decide +kernel
theorem dX7_keep_17 : decode cX7_keep 17 = .ok (.aload_n 0, 1) := by decide +kernel
theorem dX7_keep_18 : decode cX7_keep 18 = .ok (.getfield 26, 3) := by decide +kernel
theorem dX7_keep_21 : decode cX7_keep 21 = .ok (.invokevirtual 170, 3) := by decide +kernel
theorem dX7_keep_24 : decode cX7_keep 24 = .ok (.aload_n 0, 1) := by decide +kernel
theorem dX7_keep_25 : decode cX7_keep 25 = .ok (.getfield 47, 3) := by decide +kernel
theorem dX7_keep_28 : decode cX7_keep 28 = .ok (.iload_n 1, 1) := by decide +kernel
theorem dX7_keep_29 : decode cX7_keep 29 = .ok (.iconst 1, 1) := by decide +kernel
theorem dX7_keep_30 : decode cX7_keep 30 = .ok (.bastore, 1) := by decide +kernel
theorem dX7_keep_31 : decode cX7_keep 31 = .ok (.iconst 1, 1) := by decide +kernel
theorem dX7_keep_32 : decode cX7_keep 32 = .ok (.ireturn, 1) := by decide +kernel
theorem dX7_keystone_0 : decode cX7_keystone 0 = .ok (.iload_n 1, 1) := by decide +kernel
theorem dX7_keystone_1 : decode cX7_keystone 1 = .ok (.ifCond .lt 9, 3) := by decide +kernel
theorem dX7_keystone_4 : decode cX7_keystone 4 = .ok (.iload_n 1, 1) := by decide +kernel
theorem dX7_keystone_5 : decode cX7_keystone 5 = .ok (.bipush 10, 2) := by decide +kernel
theorem dX7_keystone_7 : decode cX7_keystone 7 = .ok (.if_icmp .le 5, 3) := by decide +kernel
theorem dX7_keystone_10 : decode cX7_keystone 10 = .ok (.iconst (-1), 1) := by decide +kernel
theorem dX7_keystone_11 : decode cX7_keystone 11 = .ok (.ireturn, 1) := by decide +kernel
theorem dX7_keystone_12 : decode cX7_keystone 12 = .ok (.aload_n 0, 1) := by decide +kernel
theorem dX7_keystone_13 : decode cX7_keystone 13 = .ok (.invokevirtual 313, 3) := by decide +kernel
theorem dX7_keystone_16 : decode cX7_keystone 16 = .ok (.istore_n 2, 1) := by decide +kernel
theorem dX7_keystone_17 : decode cX7_keystone 17 = .ok (.iload_n 2, 1) := by decide +kernel
theorem dX7_keystone_18 : decode cX7_keystone 18 = .ok (.ifCond .ne 6, 3) := by decide +kernel
theorem dX7_keystone_21 : decode cX7_keystone 21 = .ok (.bipush (-2), 2) := by decide +kernel
theorem dX7_keystone_23 : decode cX7_keystone 23 = .ok (.ireturn, 1) := by decide +kernel
theorem dX7_later_0 : decode cX7_later 0 = .ok (.iload_n 1, 1) := by decide +kernel
theorem dX7_later_1 : decode cX7_later 1 = .ok (.ifCond .lt 9, 3) := by decide +kernel
theorem dX7_later_4 : decode cX7_later 4 = .ok (.iload_n 1, 1) := by decide +kernel
theorem dX7_later_5 : decode cX7_later 5 = .ok (.bipush 60, 2) := by decide +kernel
theorem dX7_later_7 : decode cX7_later 7 = .ok (.if_icmp .le 5, 3) := by decide +kernel
theorem dX7_later_10 : decode cX7_later 10 = .ok (.iconst (-1), 1) := by decide +kernel
theorem dX7_later_11 : decode cX7_later 11 = .ok (.ireturn, 1) := by decide +kernel
theorem dX7_later_12 : decode cX7_later 12 = .ok (.aload_n 0, 1) := by decide +kernel
theorem dX7_later_13 : decode cX7_later 13 = .ok (.getfield 33, 3) := by decide +kernel
theorem dX7_later_16 : decode cX7_later 16 = .ok (.aload_n 0, 1) := by decide +kernel
theorem dX7_later_17 : decode cX7_later 17 = .ok (.getfield 26, 3) := by decide +kernel
theorem dX7_later_20 : decode cX7_later 20 = .ok (.invokevirtual 170, 3) := by decide +kernel
theorem dX7_later_23 : decode cX7_later 23 = .ok (.aload_n 0, 1) := by decide +kernel
theorem dX7_later_24 : decode cX7_later 24 = .ok (.getfield 19, 3) := by decide +kernel
theorem dX7_later_27 : decode cX7_later 27 = .ok (.aload_n 0, 1) := by decide +kernel
theorem dX7_later_28 : decode cX7_later 28 = .ok (.getfield 33, 3) := by decide +kernel
theorem dX7_later_31 : decode cX7_later 31 = .ok (.iload_n 1, 1) := by decide +kernel
theorem dX7_later_32 : decode cX7_later 32 = .ok (.invokevirtual 204, 3) := by decide +kernel
theorem dX7_later_35 : decode cX7_later 35 = .ok (.aload_n 0, 1) := by decide +kernel
theorem dX7_later_36 : decode cX7_later 36 = .ok (.getfield 61, 3) := by decide +kernel
theorem dX7_later_39 : decode cX7_later 39 = .ok (.aload_n 0, 1) := by decide +kernel
theorem dX7_later_40 : decode cX7_later 40 = .ok (.getfield 33, 3) := by decide +kernel
theorem dX7_later_43 : decode cX7_later 43 = .ok (.invokevirtual 164, 3) := by decide +kernel
theorem dX7_later_46 : decode cX7_later 46 = .ok (.i2l, 1) := by decide +kernel
theorem dX7_later_47 : decode cX7_later 47 = .ok (.aload_n 0, 1) := by decide +kernel
theorem dX7_later_48 : decode cX7_later 48 = .ok (.getfield 33, 3) := by decide +kernel
theorem dX7_later_51 : decode cX7_later 51 = .ok (.invokevirtual 250, 3) := by decide +kernel
theorem dX7_later_54 : decode cX7_later 54 = .ok (.i2l, 1) := by decide +kernel
theorem dX7_later_55 : decode cX7_later 55 = .ok (.invokevirtual 208, 3) := by decide +kernel
theorem dX7_later_58 : decode cX7_later 58 = .ok (.aload_n 0, 1) := by decide +kernel
theorem dX7_later_59 : decode cX7_later 59 = .ok (.getfield 33, 3) := by decide +kernel
theorem dX7_later_62 : decode cX7_later 62 = .ok (.getfield 198, 3) := by decide +kernel
theorem dX7_later_65 : decode cX7_later 65 = .ok (.aload_n 0, 1) := by decide +kernel
theorem dX7_later_66 : decode cX7_later 66 = .ok (.getfield 26, 3) := by decide +kernel
theorem dX7_later_69 : decode cX7_later 69 = .ok (.getfield 198, 3) := by decide +kernel
theorem dX7_later_72 : decode cX7_later 72 = .ok (.isub, 1) := by decide +kernel
theorem dX7_later_73 : decode cX7_later 73 = .ok (.ireturn, 1) := by decide +kernel
theorem dX7_law_0 : decode cX7_law 0 = .ok (.aload_n 0, 1) := by decide +kernel
theorem dX7_law_1 : decode cX7_law 1 = .ok (.invokevirtual 103, 3) := by decide +kernel
theorem dX7_law_4 : decode cX7_law 4 = .ok (.istore_n 1, 1) := by decide +kernel
theorem dX7_law_5 : decode cX7_law 5 = .ok (.iload_n 1, 1) := by decide +kernel
theorem dX7_law_6 : decode cX7_law 6 = .ok (.iconst (-1), 1) := by decide +kernel
theorem dX7_law_7 : decode cX7_law 7 = .ok (.if_icmp .eq 9, 3) := by decide +kernel
theorem dX7_law_16 : decode cX7_law 16 = .ok (.aload_n 0, 1) := by decide +kernel
theorem dX7_law_17 : decode cX7_law 17 = .ok (.aload_n 0, 1) := by decide +kernel
theorem dX7_law_18 : decode cX7_law 18 = .ok (.getfield 78, 3) := by decide +kernel
theorem dX7_law_21 : decode cX7_law 21 = .ok (.invokevirtual 381, 3) := by decide +kernel
theorem dX7_law_24 : decode cX7_law 24 = .ok (.istore_n 2, 1) := by decide +kernel
theorem dX7_law_25 : decode cX7_law 25 = .ok (.aload_n 0, 1) := by decide +kernel
theorem dX7_law_26 : decode cX7_law 26 = .ok (.aload_n 0, 1) := by decide +kernel
theorem dX7_law_27 : decode cX7_law 27 = .ok (.getfield 19, 3) := by decide +kernel
theorem dX7_law_30 : decode cX7_law 30 = .ok (.getfield 107, 3) := by decide +kernel
theorem dX7_law_33 : decode cX7_law 33 = .ok (.invokevirtual 381, 3) := by decide +kernel
theorem dX7_law_36 : decode cX7_law 36 = .ok (.istore_n 3, 1) := by decide +kernel
theorem dX7_law_37 : decode cX7_law 37 = .ok (.aload_n 0, 1) := by decide +kernel
theorem dX7_law_38 : decode cX7_law 38 = .ok (.getfield 61, 3) := by decide +kernel
theorem dX7_law_41 : decode cX7_law 41 = .ok (.iload_n 2, 1) := by decide +kernel
theorem dX7_law_42 : decode cX7_law 42 = .ok (.i2l, 1) := by decide +kernel
theorem dX7_law_43 : decode cX7_law 43 = .ok (.iload_n 3, 1) := by decide +kernel
theorem dX7_law_44 : decode cX7_law 44 = .ok (.i2l, 1) := by decide +kernel
theorem dX7_law_45 : decode cX7_law 45 = .ok (.invokevirtual 208, 3) := by decide +kernel
theorem dX7_law_48 : decode cX7_law 48 = .ok (.iload_n 2, 1) := by decide +kernel
theorem dX7_law_49 : decode cX7_law 49 = .ok (.iload_n 3, 1) := by decide +kernel
theorem dX7_law_50 : decode cX7_law 50 = .ok (.isub, 1) := by decide +kernel
theorem dX7_law_51 : decode cX7_law 51 = .ok (.ireturn, 1) := by decide +kernel
theorem dX7_lowest_0 : decode cX7_lowest 0 = .ok (.iload_n 0, 1) := by decide +kernel
theorem dX7_lowest_1 : decode cX7_lowest 1 = .ok (.iload_n 0, 1) := by decide +kernel
theorem dX7_lowest_2 : decode cX7_lowest 2 = .ok (.ineg, 1) := by decide +kernel
theorem dX7_lowest_3 : decode cX7_lowest 3 = .ok (.iand, 1) := by decide +kernel
theorem dX7_lowest_4 : decode cX7_lowest 4 = .ok (.iconst 1, 1) := by decide +kernel
theorem dX7_lowest_5 : decode cX7_lowest 5 = .ok (.isub, 1) := by decide +kernel
theorem dX7_lowest_6 : decode cX7_lowest 6 = .ok (.invokestatic 193, 3) := by decide +kernel
theorem dX7_lowest_9 : decode cX7_lowest 9 = .ok (.ireturn, 1) := by decide +kernel
theorem dX7_meets_0 : decode cX7_meets 0 = .ok (.aload_n 0, 1) := by decide +kernel
theorem dX7_meets_1 : decode cX7_meets 1 = .ok (.getfield 19, 3) := by decide +kernel
theorem dX7_meets_4 : decode cX7_meets 4 = .ok (.iload_n 1, 1) := by decide +kernel
theorem dX7_meets_5 : decode cX7_meets 5 = .ok (.iload_n 2, 1) := by decide +kernel
theorem dX7_meets_6 : decode cX7_meets 6 = .ok (.invokevirtual 328, 3) := by decide +kernel
theorem dX7_meets_9 : decode cX7_meets 9 = .ok (.ifCond .eq 14, 3) := by decide +kernel
theorem dX7_meets_23 : decode cX7_meets 23 = .ok (.iconst (-1), 1) := by decide +kernel
theorem dX7_meets_24 : decode cX7_meets 24 = .ok (.ireturn, 1) := by decide +kernel
theorem dX7_mended_0 : decode cX7_mended 0 = .ok (.aload_n 0, 1) := by decide +kernel
theorem dX7_mended_1 : decode cX7_mended 1 = .ok (.getfield 19, 3) := by decide +kernel
theorem dX7_mended_4 : decode cX7_mended 4 = .ok (.iload_n 1, 1) := by decide +kernel
theorem dX7_mended_5 : decode cX7_mended 5 = .ok (.invokevirtual 110, 3) := by decide +kernel
theorem dX7_mended_8 : decode cX7_mended 8 = .ok (.ifCond .ne 5, 3) := by decide +kernel
theorem dX7_mended_11 : decode cX7_mended 11 = .ok (.iconst (-1), 1) := by decide +kernel
theorem dX7_mended_12 : decode cX7_mended 12 = .ok (.ireturn, 1) := by decide +kernel
theorem dX7_missed_0 : decode cX7_missed 0 = .ok (.aload_n 0, 1) := by decide +kernel
theorem dX7_missed_1 : decode cX7_missed 1 = .ok (.getfield 19, 3) := by decide +kernel
theorem dX7_missed_4 : decode cX7_missed 4 = .ok (.iload_n 1, 1) := by decide +kernel
theorem dX7_missed_5 : decode cX7_missed 5 = .ok (.invokevirtual 110, 3) := by decide +kernel
theorem dX7_missed_8 : decode cX7_missed 8 = .ok (.ifCond .ne 5, 3) := by decide +kernel
theorem dX7_missed_11 : decode cX7_missed 11 = .ok (.iconst (-1), 1) := by decide +kernel
theorem dX7_missed_12 : decode cX7_missed 12 = .ok (.ireturn, 1) := by decide +kernel
theorem dX7_nights_0 : decode cX7_nights 0 = .ok (.iload_n 1, 1) := by decide +kernel
theorem dX7_nights_1 : decode cX7_nights 1 = .ok (.ifCond .lt 9, 3) := by decide +kernel
theorem dX7_nights_4 : decode cX7_nights 4 = .ok (.iload_n 1, 1) := by decide +kernel
theorem dX7_nights_5 : decode cX7_nights 5 = .ok (.bipush 30, 2) := by decide +kernel
theorem dX7_nights_7 : decode cX7_nights 7 = .ok (.if_icmp .le 5, 3) := by decide +kernel
theorem dX7_nights_10 : decode cX7_nights 10 = .ok (.iconst (-1), 1) := by decide +kernel
theorem dX7_nights_11 : decode cX7_nights 11 = .ok (.ireturn, 1) := by decide +kernel
theorem dX7_nights_12 : decode cX7_nights 12 = .ok (.iload_n 1, 1) := by decide +kernel
theorem dX7_nights_13 : decode cX7_nights 13 = .ok (.ifCond .le 14, 3) := by decide +kernel
theorem dX7_nights_16 : decode cX7_nights 16 = .ok (.aload_n 0, 1) := by decide +kernel
theorem dX7_nights_17 : decode cX7_nights 17 = .ok (.getfield 39, 3) := by decide +kernel
theorem dX7_nights_20 : decode cX7_nights 20 = .ok (.aload_n 0, 1) := by decide +kernel
theorem dX7_nights_21 : decode cX7_nights 21 = .ok (.getfield 26, 3) := by decide +kernel
theorem dX7_nights_24 : decode cX7_nights 24 = .ok (.invokevirtual 177, 3) := by decide +kernel
theorem dX7_nights_27 : decode cX7_nights 27 = .ok (.aload_n 0, 1) := by decide +kernel
theorem dX7_nights_28 : decode cX7_nights 28 = .ok (.getfield 26, 3) := by decide +kernel
theorem dX7_nights_31 : decode cX7_nights 31 = .ok (.getfield 198, 3) := by decide +kernel
theorem dX7_nights_34 : decode cX7_nights 34 = .ok (.istore_n 2, 1) := by decide +kernel
theorem dX7_nights_35 : decode cX7_nights 35 = .ok (.aload_n 0, 1) := by decide +kernel
theorem dX7_nights_36 : decode cX7_nights 36 = .ok (.getfield 26, 3) := by decide +kernel
theorem dX7_nights_39 : decode cX7_nights 39 = .ok (.getfield 201, 3) := by decide +kernel
theorem dX7_nights_42 : decode cX7_nights 42 = .ok (.istore_n 3, 1) := by decide +kernel
theorem dX7_nights_43 : decode cX7_nights 43 = .ok (.aload_n 0, 1) := by decide +kernel
theorem dX7_nights_44 : decode cX7_nights 44 = .ok (.getfield 19, 3) := by decide +kernel
theorem dX7_nights_47 : decode cX7_nights 47 = .ok (.aload_n 0, 1) := by decide +kernel
theorem dX7_nights_48 : decode cX7_nights 48 = .ok (.getfield 26, 3) := by decide +kernel
theorem dX7_nights_51 : decode cX7_nights 51 = .ok (.iload_n 1, 1) := by decide +kernel
theorem dX7_nights_52 : decode cX7_nights 52 = .ok (.invokevirtual 204, 3) := by decide +kernel
theorem dX7_nights_55 : decode cX7_nights 55 = .ok (.aload_n 0, 1) := by decide +kernel
theorem dX7_nights_56 : decode cX7_nights 56 = .ok (.getfield 61, 3) := by decide +kernel
theorem dX7_nights_59 : decode cX7_nights 59 = .ok (.aload_n 0, 1) := by decide +kernel
theorem dX7_nights_60 : decode cX7_nights 60 = .ok (.getfield 26, 3) := by decide +kernel
theorem dX7_nights_63 : decode cX7_nights 63 = .ok (.getfield 201, 3) := by decide +kernel
theorem dX7_nights_66 : decode cX7_nights 66 = .ok (.iload_n 3, 1) := by decide +kernel
theorem dX7_nights_67 : decode cX7_nights 67 = .ok (.isub, 1) := by decide +kernel
theorem dX7_nights_68 : decode cX7_nights 68 = .ok (.i2l, 1) := by decide +kernel
theorem dX7_nights_69 : decode cX7_nights 69 = .ok (.aload_n 0, 1) := by decide +kernel
theorem dX7_nights_70 : decode cX7_nights 70 = .ok (.getfield 26, 3) := by decide +kernel
theorem dX7_nights_73 : decode cX7_nights 73 = .ok (.invokevirtual 164, 3) := by decide +kernel
theorem dX7_nights_76 : decode cX7_nights 76 = .ok (.i2l, 1) := by decide +kernel
theorem dX7_nights_77 : decode cX7_nights 77 = .ok (.invokevirtual 208, 3) := by decide +kernel
theorem dX7_nights_80 : decode cX7_nights 80 = .ok (.aload_n 0, 1) := by decide +kernel
theorem dX7_nights_81 : decode cX7_nights 81 = .ok (.getfield 26, 3) := by decide +kernel
theorem dX7_nights_84 : decode cX7_nights 84 = .ok (.getfield 198, 3) := by decide +kernel
theorem dX7_nights_87 : decode cX7_nights 87 = .ok (.iload_n 2, 1) := by decide +kernel
theorem dX7_nights_88 : decode cX7_nights 88 = .ok (.isub, 1) := by decide +kernel
theorem dX7_nights_89 : decode cX7_nights 89 = .ok (.ireturn, 1) := by decide +kernel
theorem dX7_openFitting_0 : decode cX7_openFitting 0 = .ok (.aload_n 0, 1) := by decide +kernel
theorem dX7_openFitting_1 : decode cX7_openFitting 1 = .ok (.iconst (-1), 1) := by decide +kernel
theorem dX7_openFitting_2 : decode cX7_openFitting 2 = .ok (.invokevirtual 268, 3) := by decide +kernel
theorem dX7_openFitting_5 : decode cX7_openFitting 5 = .ok (.iconst 0, 1) := by decide +kernel
theorem dX7_openFitting_6 : decode cX7_openFitting 6 = .ok (.istore_n 1, 1) := by decide +kernel
theorem dX7_openFitting_7 : decode cX7_openFitting 7 = .ok (.iload_n 1, 1) := by decide +kernel
theorem dX7_openFitting_8 : decode cX7_openFitting 8 = .ok (.aload_n 0, 1) := by decide +kernel
theorem dX7_openFitting_9 : decode cX7_openFitting 9 = .ok (.getfield 345, 3) := by decide +kernel
theorem dX7_openFitting_12 : decode cX7_openFitting 12 = .ok (.if_icmp .ge 60, 3) := by decide +kernel
theorem dX7_openFitting_72 : decode cX7_openFitting 72 = .ok (.return_, 1) := by decide +kernel
theorem dX7_openSeats_0 : decode cX7_openSeats 0 = .ok (.aload_n 0, 1) := by decide +kernel
theorem dX7_openSeats_1 : decode cX7_openSeats 1 = .ok (.getfield 54, 3) := by decide +kernel
theorem dX7_openSeats_4 : decode cX7_openSeats 4 = .ok (.aload_n 0, 1) := by decide +kernel
theorem dX7_openSeats_5 : decode cX7_openSeats 5 = .ok (.getfield 19, 3) := by decide +kernel
theorem dX7_openSeats_8 : decode cX7_openSeats 8 = .ok (.getfield 141, 3) := by decide +kernel
theorem dX7_openSeats_11 : decode cX7_openSeats 11 = .ok (.invokevirtual 430, 3) := by decide +kernel
theorem dX7_openSeats_14 : decode cX7_openSeats 14 = .ok (.iconst 0, 1) := by decide +kernel
theorem dX7_openSeats_15 : decode cX7_openSeats 15 = .ok (.istore_n 2, 1) := by decide +kernel
theorem dX7_openSeats_16 : decode cX7_openSeats 16 = .ok (.iload_n 2, 1) := by decide +kernel
theorem dX7_openSeats_17 : decode cX7_openSeats 17 = .ok (.aload_n 0, 1) := by decide +kernel
theorem dX7_openSeats_18 : decode cX7_openSeats 18 = .ok (.getfield 19, 3) := by decide +kernel
theorem dX7_openSeats_21 : decode cX7_openSeats 21 = .ok (.getfield 154, 3) := by decide +kernel
theorem dX7_openSeats_24 : decode cX7_openSeats 24 = .ok (.if_icmp .ge 65, 3) := by decide +kernel
theorem dX7_openSeats_89 : decode cX7_openSeats 89 = .ok (.return_, 1) := by decide +kernel
theorem dX7_paid_0 : decode cX7_paid 0 = .ok (.aload_n 0, 1) := by decide +kernel
theorem dX7_paid_1 : decode cX7_paid 1 = .ok (.getfield 19, 3) := by decide +kernel
theorem dX7_paid_4 : decode cX7_paid 4 = .ok (.iload_n 1, 1) := by decide +kernel
theorem dX7_paid_5 : decode cX7_paid 5 = .ok (.invokevirtual 110, 3) := by decide +kernel
theorem dX7_paid_8 : decode cX7_paid 8 = .ok (.ifCond .ne 5, 3) := by decide +kernel
theorem dX7_paid_11 : decode cX7_paid 11 = .ok (.iconst (-1), 1) := by decide +kernel
theorem dX7_paid_12 : decode cX7_paid 12 = .ok (.ireturn, 1) := by decide +kernel
theorem dX7_power_0 : decode cX7_power 0 = .ok (.lconst 1, 1) := by decide +kernel
theorem dX7_power_1 : decode cX7_power 1 = .ok (.lstore_n 2, 1) := by decide +kernel
theorem dX7_power_2 : decode cX7_power 2 = .ok (.iconst 0, 1) := by decide +kernel
theorem dX7_power_3 : decode cX7_power 3 = .ok (.istore 4, 2) := by decide +kernel
theorem dX7_power_5 : decode cX7_power 5 = .ok (.iload 4, 2) := by decide +kernel
theorem dX7_power_7 : decode cX7_power 7 = .ok (.iload_n 1, 1) := by decide +kernel
theorem dX7_power_8 : decode cX7_power 8 = .ok (.if_icmp .ge 14, 3) := by decide +kernel
theorem dX7_power_22 : decode cX7_power 22 = .ok (.lload_n 2, 1) := by decide +kernel
theorem dX7_power_23 : decode cX7_power 23 = .ok (.lreturn, 1) := by decide +kernel
theorem dX7_priceByHard_0 : decode cX7_priceByHard 0 = .ok (.iconst 0, 1) := by decide +kernel
theorem dX7_priceByHard_1 : decode cX7_priceByHard 1 = .ok (.istore_n 1, 1) := by decide +kernel
theorem dX7_priceByHard_2 : decode cX7_priceByHard 2 = .ok (.iload_n 1, 1) := by decide +kernel
theorem dX7_priceByHard_3 : decode cX7_priceByHard 3 = .ok (.aload_n 0, 1) := by decide +kernel
theorem dX7_priceByHard_4 : decode cX7_priceByHard 4 = .ok (.getfield 19, 3) := by decide +kernel
theorem dX7_priceByHard_7 : decode cX7_priceByHard 7 = .ok (.getfield 154, 3) := by decide +kernel
theorem dX7_priceByHard_10 : decode cX7_priceByHard 10 = .ok (.if_icmp .ge 43, 3) := by decide +kernel
theorem dX7_priceByHard_53 : decode cX7_priceByHard 53 = .ok (.return_, 1) := by decide +kernel
theorem dX7_priceByName_0 : decode cX7_priceByName 0 = .ok (.iconst 0, 1) := by decide +kernel
theorem dX7_priceByName_1 : decode cX7_priceByName 1 = .ok (.istore_n 1, 1) := by decide +kernel
theorem dX7_priceByName_2 : decode cX7_priceByName 2 = .ok (.iload_n 1, 1) := by decide +kernel
theorem dX7_priceByName_3 : decode cX7_priceByName 3 = .ok (.aload_n 0, 1) := by decide +kernel
theorem dX7_priceByName_4 : decode cX7_priceByName 4 = .ok (.getfield 19, 3) := by decide +kernel
theorem dX7_priceByName_7 : decode cX7_priceByName 7 = .ok (.getfield 154, 3) := by decide +kernel
theorem dX7_priceByName_10 : decode cX7_priceByName 10 = .ok (.if_icmp .ge 38, 3) := by decide +kernel
theorem dX7_priceByName_48 : decode cX7_priceByName 48 = .ok (.return_, 1) := by decide +kernel
theorem dX7_readSpare_0 : decode cX7_readSpare 0 = .ok (.aload_n 0, 1) := by decide +kernel
theorem dX7_readSpare_1 : decode cX7_readSpare 1 = .ok (.getfield 78, 3) := by decide +kernel
theorem dX7_readSpare_4 : decode cX7_readSpare 4 = .ok (.aload_n 0, 1) := by decide +kernel
theorem dX7_readSpare_5 : decode cX7_readSpare 5 = .ok (.getfield 10, 3) := by decide +kernel
theorem dX7_readSpare_8 : decode cX7_readSpare 8 = .ok (.invokevirtual 411, 3) := by decide +kernel
theorem dX7_readSpare_11 : decode cX7_readSpare 11 = .ok (.istore_n 1, 1) := by decide +kernel
theorem dX7_readSpare_12 : decode cX7_readSpare 12 = .ok (.aload_n 0, 1) := by decide +kernel
theorem dX7_readSpare_13 : decode cX7_readSpare 13 = .ok (.getfield 10, 3) := by decide +kernel
theorem dX7_readSpare_16 : decode cX7_readSpare 16 = .ok (.invokevirtual 94, 3) := by decide +kernel
theorem dX7_readSpare_19 : decode cX7_readSpare 19 = .ok (.iload_n 1, 1) := by decide +kernel
theorem dX7_readSpare_20 : decode cX7_readSpare 20 = .ok (.ireturn, 1) := by decide +kernel
theorem dX7_rests_0 : decode cX7_rests 0 = .ok (.iload_n 1, 1) := by decide +kernel
theorem dX7_rests_1 : decode cX7_rests 1 = .ok (.ifCond .lt 19, 3) := by decide +kernel
theorem dX7_rests_4 : decode cX7_rests 4 = .ok (.iload_n 1, 1) := by decide +kernel
theorem dX7_rests_5 : decode cX7_rests 5 = .ok (.bipush 10, 2) := by decide +kernel
theorem dX7_rests_7 : decode cX7_rests 7 = .ok (.if_icmp .ge 13, 3) := by decide +kernel
theorem dX7_rests_10 : decode cX7_rests 10 = .ok (.iload_n 2, 1) := by decide +kernel
theorem dX7_rests_11 : decode cX7_rests 11 = .ok (.ifCond .lt 9, 3) := by decide +kernel
theorem dX7_rests_14 : decode cX7_rests 14 = .ok (.iload_n 2, 1) := by decide +kernel
theorem dX7_rests_15 : decode cX7_rests 15 = .ok (.bipush 10, 2) := by decide +kernel
theorem dX7_rests_17 : decode cX7_rests 17 = .ok (.if_icmp .lt 5, 3) := by decide +kernel
theorem dX7_rests_20 : decode cX7_rests 20 = .ok (.iconst (-1), 1) := by decide +kernel
theorem dX7_rests_21 : decode cX7_rests 21 = .ok (.ireturn, 1) := by decide +kernel
theorem dX7_rests_22 : decode cX7_rests 22 = .ok (.iconst 0, 1) := by decide +kernel
theorem dX7_rests_23 : decode cX7_rests 23 = .ok (.istore_n 3, 1) := by decide +kernel
theorem dX7_rests_24 : decode cX7_rests 24 = .ok (.iconst 0, 1) := by decide +kernel
theorem dX7_rests_25 : decode cX7_rests 25 = .ok (.istore 4, 2) := by decide +kernel
theorem dX7_rests_27 : decode cX7_rests 27 = .ok (.iconst 0, 1) := by decide +kernel
theorem dX7_rests_28 : decode cX7_rests 28 = .ok (.istore 5, 2) := by decide +kernel
theorem dX7_rests_30 : decode cX7_rests 30 = .ok (.bipush 99, 2) := by decide +kernel
theorem dX7_rests_32 : decode cX7_rests 32 = .ok (.istore 6, 2) := by decide +kernel
theorem dX7_rests_34 : decode cX7_rests 34 = .ok (.iload 6, 2) := by decide +kernel
theorem dX7_rests_36 : decode cX7_rests 36 = .ok (.ifCond .lt 57, 3) := by decide +kernel
theorem dX7_rests_39 : decode cX7_rests 39 = .ok (.iload 6, 2) := by decide +kernel
theorem dX7_rests_41 : decode cX7_rests 41 = .ok (.bipush 10, 2) := by decide +kernel
theorem dX7_rests_43 : decode cX7_rests 43 = .ok (.idiv, 1) := by decide +kernel
theorem dX7_rests_44 : decode cX7_rests 44 = .ok (.iload 6, 2) := by decide +kernel
theorem dX7_rests_46 : decode cX7_rests 46 = .ok (.bipush 10, 2) := by decide +kernel
theorem dX7_rests_48 : decode cX7_rests 48 = .ok (.irem, 1) := by decide +kernel
theorem dX7_rests_49 : decode cX7_rests 49 = .ok (.iload_n 1, 1) := by decide +kernel
theorem dX7_rests_50 : decode cX7_rests 50 = .ok (.iload_n 2, 1) := by decide +kernel
theorem dX7_rests_51 : decode cX7_rests 51 = .ok (.invokestatic 377, 3) := by decide +kernel
theorem dX7_rests_54 : decode cX7_rests 54 = .ok (.ifCond .eq 33, 3) := by decide +kernel
theorem dX7_rests_57 : decode cX7_rests 57 = .ok (.iinc 3 1, 3) := by decide +kernel
theorem dX7_rests_60 : decode cX7_rests 60 = .ok (.iload 4, 2) := by decide +kernel
theorem dX7_rests_62 : decode cX7_rests 62 = .ok (.iload 6, 2) := by decide +kernel
theorem dX7_rests_64 : decode cX7_rests 64 = .ok (.bipush 10, 2) := by decide +kernel
theorem dX7_rests_66 : decode cX7_rests 66 = .ok (.idiv, 1) := by decide +kernel
theorem dX7_rests_67 : decode cX7_rests 67 = .ok (.iload 6, 2) := by decide +kernel
theorem dX7_rests_69 : decode cX7_rests 69 = .ok (.bipush 10, 2) := by decide +kernel
theorem dX7_rests_71 : decode cX7_rests 71 = .ok (.irem, 1) := by decide +kernel
theorem dX7_rests_72 : decode cX7_rests 72 = .ok (.if_icmp .lt 7, 3) := by decide +kernel
theorem dX7_rests_75 : decode cX7_rests 75 = .ok (.iconst 1, 1) := by decide +kernel
theorem dX7_rests_76 : decode cX7_rests 76 = .ok (.goto 4, 3) := by decide +kernel
theorem dX7_rests_79 : decode cX7_rests 79 = .ok (.iconst 0, 1) := by decide +kernel
theorem dX7_rests_80 : decode cX7_rests 80 = .ok (.iadd, 1) := by decide +kernel
theorem dX7_rests_81 : decode cX7_rests 81 = .ok (.istore 4, 2) := by decide +kernel
theorem dX7_rests_83 : decode cX7_rests 83 = .ok (.iload 6, 2) := by decide +kernel
theorem dX7_rests_85 : decode cX7_rests 85 = .ok (.istore 5, 2) := by decide +kernel
theorem dX7_rests_87 : decode cX7_rests 87 = .ok (.iinc 6 (-1), 3) := by decide +kernel
theorem dX7_rests_90 : decode cX7_rests 90 = .ok (.goto (-56), 3) := by decide +kernel
theorem dX7_rests_93 : decode cX7_rests 93 = .ok (.aload_n 0, 1) := by decide +kernel
theorem dX7_rests_94 : decode cX7_rests 94 = .ok (.getfield 61, 3) := by decide +kernel
theorem dX7_rests_97 : decode cX7_rests 97 = .ok (.invokevirtual 316, 3) := by decide +kernel
theorem dX7_rests_100 : decode cX7_rests 100 = .ok (.iload_n 3, 1) := by decide +kernel
theorem dX7_rests_101 : decode cX7_rests 101 = .ok (.ifCond .le 32, 3) := by decide +kernel
theorem dX7_rests_104 : decode cX7_rests 104 = .ok (.aload_n 0, 1) := by decide +kernel
theorem dX7_rests_105 : decode cX7_rests 105 = .ok (.getfield 61, 3) := by decide +kernel
theorem dX7_rests_108 : decode cX7_rests 108 = .ok (.iload 5, 2) := by decide +kernel
theorem dX7_rests_110 : decode cX7_rests 110 = .ok (.bipush 10, 2) := by decide +kernel
theorem dX7_rests_112 : decode cX7_rests 112 = .ok (.idiv, 1) := by decide +kernel
theorem dX7_rests_113 : decode cX7_rests 113 = .ok (.i2l, 1) := by decide +kernel
theorem dX7_rests_114 : decode cX7_rests 114 = .ok (.iload 5, 2) := by decide +kernel
theorem dX7_rests_116 : decode cX7_rests 116 = .ok (.bipush 10, 2) := by decide +kernel
theorem dX7_rests_118 : decode cX7_rests 118 = .ok (.irem, 1) := by decide +kernel
theorem dX7_rests_119 : decode cX7_rests 119 = .ok (.i2l, 1) := by decide +kernel
theorem dX7_rests_120 : decode cX7_rests 120 = .ok (.invokevirtual 208, 3) := by decide +kernel
theorem dX7_rests_123 : decode cX7_rests 123 = .ok (.aload_n 0, 1) := by decide +kernel
theorem dX7_rests_124 : decode cX7_rests 124 = .ok (.getfield 61, 3) := by decide +kernel
theorem dX7_rests_127 : decode cX7_rests 127 = .ok (.iload 4, 2) := by decide +kernel
theorem dX7_rests_129 : decode cX7_rests 129 = .ok (.i2l, 1) := by decide +kernel
theorem dX7_rests_130 : decode cX7_rests 130 = .ok (.invokevirtual 256, 3) := by decide +kernel
theorem dX7_rests_133 : decode cX7_rests 133 = .ok (.iload_n 3, 1) := by decide +kernel
theorem dX7_rests_134 : decode cX7_rests 134 = .ok (.ireturn, 1) := by decide +kernel
theorem dX7_rider_0 : decode cX7_rider 0 = .ok (.aload_n 0, 1) := by decide +kernel
theorem dX7_rider_1 : decode cX7_rider 1 = .ok (.getfield 19, 3) := by decide +kernel
theorem dX7_rider_4 : decode cX7_rider 4 = .ok (.iload_n 1, 1) := by decide +kernel
theorem dX7_rider_5 : decode cX7_rider 5 = .ok (.invokevirtual 110, 3) := by decide +kernel
theorem dX7_rider_8 : decode cX7_rider 8 = .ok (.ifCond .eq 12, 3) := by decide +kernel
theorem dX7_rider_23 : decode cX7_rider 23 = .ok (.dup, 1) := by decide +kernel
theorem dX7_riders_0 : decode cX7_riders 0 = .ok (.aload_n 0, 1) := by decide +kernel
theorem dX7_riders_1 : decode cX7_riders 1 = .ok (.getfield 19, 3) := by decide +kernel
theorem dX7_riders_4 : decode cX7_riders 4 = .ok (.aload_n 0, 1) := by decide +kernel
theorem dX7_riders_5 : decode cX7_riders 5 = .ok (.getfield 10, 3) := by decide +kernel
theorem dX7_riders_8 : decode cX7_riders 8 = .ok (.invokevirtual 90, 3) := by decide +kernel
theorem dX7_riders_11 : decode cX7_riders 11 = .ok (.istore_n 1, 1) := by decide +kernel
theorem dX7_riders_12 : decode cX7_riders 12 = .ok (.aload_n 0, 1) := by decide +kernel
theorem dX7_riders_13 : decode cX7_riders 13 = .ok (.getfield 10, 3) := by decide +kernel
theorem dX7_riders_16 : decode cX7_riders 16 = .ok (.invokevirtual 94, 3) := by decide +kernel
theorem dX7_riders_19 : decode cX7_riders 19 = .ok (.iload_n 1, 1) := by decide +kernel
theorem dX7_riders_20 : decode cX7_riders 20 = .ok (.ifCond .le 14, 3) := by decide +kernel
theorem dX7_riders_34 : decode cX7_riders 34 = .ok (.iload_n 1, 1) := by decide +kernel
theorem dX7_riders_35 : decode cX7_riders 35 = .ok (.ireturn, 1) := by decide +kernel
theorem dX7_rota_0 : decode cX7_rota 0 = .ok (.aload_n 0, 1) := by decide +kernel
theorem dX7_rota_1 : decode cX7_rota 1 = .ok (.invokevirtual 167, 3) := by decide +kernel
theorem dX7_rota_4 : decode cX7_rota 4 = .ok (.istore_n 1, 1) := by decide +kernel
theorem dX7_rota_5 : decode cX7_rota 5 = .ok (.iconst (-1), 1) := by decide +kernel
theorem dX7_rota_6 : decode cX7_rota 6 = .ok (.iload_n 1, 1) := by decide +kernel
theorem dX7_rota_7 : decode cX7_rota 7 = .ok (.isub, 1) := by decide +kernel
theorem dX7_rota_8 : decode cX7_rota 8 = .ok (.istore_n 2, 1) := by decide +kernel
theorem dX7_rota_9 : decode cX7_rota 9 = .ok (.iload_n 1, 1) := by decide +kernel
theorem dX7_rota_10 : decode cX7_rota 10 = .ok (.iconst (-1), 1) := by decide +kernel
theorem dX7_rota_11 : decode cX7_rota 11 = .ok (.if_icmp .ne 30, 3) := by decide +kernel
theorem dX7_rota_41 : decode cX7_rota 41 = .ok (.aload_n 0, 1) := by decide +kernel
theorem dX7_rota_42 : decode cX7_rota 42 = .ok (.getfield 10, 3) := by decide +kernel
theorem dX7_rota_45 : decode cX7_rota 45 = .ok (.invokevirtual 94, 3) := by decide +kernel
theorem dX7_rota_48 : decode cX7_rota 48 = .ok (.iload_n 2, 1) := by decide +kernel
theorem dX7_rota_49 : decode cX7_rota 49 = .ok (.ireturn, 1) := by decide +kernel
theorem dX7_rotaFault_0 : decode cX7_rotaFault 0 = .ok (.aload_n 0, 1) := by decide +kernel
theorem dX7_rotaFault_1 : decode cX7_rotaFault 1 = .ok (.getfield 10, 3) := by decide +kernel
theorem dX7_rotaFault_4 : decode cX7_rotaFault 4 = .ok (.getfield 215, 3) := by decide +kernel
theorem dX7_rotaFault_7 : decode cX7_rotaFault 7 = .ok (.aload_n 0, 1) := by decide +kernel
theorem dX7_rotaFault_8 : decode cX7_rotaFault 8 = .ok (.getfield 19, 3) := by decide +kernel
theorem dX7_rotaFault_11 : decode cX7_rotaFault 11 = .ok (.getfield 141, 3) := by decide +kernel
theorem dX7_rotaFault_14 : decode cX7_rotaFault 14 = .ok (.invokestatic 400, 3) := by decide +kernel
theorem dX7_rotaFault_17 : decode cX7_rotaFault 17 = .ok (.istore_n 1, 1) := by decide +kernel
theorem dX7_rotaFault_18 : decode cX7_rotaFault 18 = .ok (.iconst 0, 1) := by decide +kernel
theorem dX7_rotaFault_19 : decode cX7_rotaFault 19 = .ok (.istore_n 2, 1) := by decide +kernel
theorem dX7_rotaFault_20 : decode cX7_rotaFault 20 = .ok (.iload_n 2, 1) := by decide +kernel
theorem dX7_rotaFault_21 : decode cX7_rotaFault 21 = .ok (.iload_n 1, 1) := by decide +kernel
theorem dX7_rotaFault_22 : decode cX7_rotaFault 22 = .ok (.if_icmp .ge 47, 3) := by decide +kernel
theorem dX7_rotaFault_69 : decode cX7_rotaFault 69 = .ok (.aload_n 0, 1) := by decide +kernel
theorem dX7_rotaFault_70 : decode cX7_rotaFault 70 = .ok (.getfield 10, 3) := by decide +kernel
theorem dX7_rotaFault_73 : decode cX7_rotaFault 73 = .ok (.getfield 215, 3) := by decide +kernel
theorem dX7_rotaFault_76 : decode cX7_rotaFault 76 = .ok (.aload_n 0, 1) := by decide +kernel
theorem dX7_rotaFault_77 : decode cX7_rotaFault 77 = .ok (.getfield 19, 3) := by decide +kernel
theorem dX7_rotaFault_80 : decode cX7_rotaFault 80 = .ok (.getfield 141, 3) := by decide +kernel
theorem dX7_rotaFault_83 : decode cX7_rotaFault 83 = .ok (.if_icmp .ne 7, 3) := by decide +kernel
theorem dX7_rotaFault_90 : decode cX7_rotaFault 90 = .ok (.iload_n 1, 1) := by decide +kernel
theorem dX7_rotaFault_91 : decode cX7_rotaFault 91 = .ok (.ireturn, 1) := by decide +kernel
theorem dX7_rotas_0 : decode cX7_rotas 0 = .ok (.aload_n 0, 1) := by decide +kernel
theorem dX7_rotas_1 : decode cX7_rotas 1 = .ok (.iconst (-1), 1) := by decide +kernel
theorem dX7_rotas_2 : decode cX7_rotas 2 = .ok (.invokevirtual 268, 3) := by decide +kernel
theorem dX7_rotas_5 : decode cX7_rotas 5 = .ok (.aload_n 0, 1) := by decide +kernel
theorem dX7_rotas_6 : decode cX7_rotas 6 = .ok (.invokevirtual 287, 3) := by decide +kernel
theorem dX7_rotas_9 : decode cX7_rotas 9 = .ok (.ireturn, 1) := by decide +kernel
theorem dX7_row_0 : decode cX7_row 0 = .ok (.iload_n 1, 1) := by decide +kernel
theorem dX7_row_1 : decode cX7_row 1 = .ok (.ifCond .lt 14, 3) := by decide +kernel
theorem dX7_row_4 : decode cX7_row 4 = .ok (.iload_n 1, 1) := by decide +kernel
theorem dX7_row_5 : decode cX7_row 5 = .ok (.aload_n 0, 1) := by decide +kernel
theorem dX7_row_6 : decode cX7_row 6 = .ok (.getfield 61, 3) := by decide +kernel
theorem dX7_row_9 : decode cX7_row 9 = .ok (.getfield 397, 3) := by decide +kernel
theorem dX7_row_12 : decode cX7_row 12 = .ok (.if_icmp .lt 11, 3) := by decide +kernel
theorem dX7_row_18 : decode cX7_row 18 = .ok (.dup, 1) := by decide +kernel
theorem dX7_rule_0 : decode cX7_rule 0 = .ok (.aload_n 0, 1) := by decide +kernel
theorem dX7_rule_1 : decode cX7_rule 1 = .ok (.invokevirtual 103, 3) := by decide +kernel
theorem dX7_rule_4 : decode cX7_rule 4 = .ok (.istore_n 1, 1) := by decide +kernel
theorem dX7_rule_5 : decode cX7_rule 5 = .ok (.iload_n 1, 1) := by decide +kernel
theorem dX7_rule_6 : decode cX7_rule 6 = .ok (.iconst (-1), 1) := by decide +kernel
theorem dX7_rule_7 : decode cX7_rule 7 = .ok (.if_icmp .eq 7, 3) := by decide +kernel
theorem dX7_rule_14 : decode cX7_rule 14 = .ok (.aload_n 0, 1) := by decide +kernel
theorem dX7_rule_15 : decode cX7_rule 15 = .ok (.getfield 19, 3) := by decide +kernel
theorem dX7_rule_18 : decode cX7_rule 18 = .ok (.getfield 107, 3) := by decide +kernel
theorem dX7_rule_21 : decode cX7_rule 21 = .ok (.astore_n 2, 1) := by decide +kernel
theorem dX7_rule_22 : decode cX7_rule 22 = .ok (.aload_n 0, 1) := by decide +kernel
theorem dX7_rule_23 : decode cX7_rule 23 = .ok (.getfield 19, 3) := by decide +kernel
theorem dX7_rule_26 : decode cX7_rule 26 = .ok (.aload_n 0, 1) := by decide +kernel
theorem dX7_rule_27 : decode cX7_rule 27 = .ok (.getfield 78, 3) := by decide +kernel
theorem dX7_rule_30 : decode cX7_rule 30 = .ok (.putfield 107, 3) := by decide +kernel
theorem dX7_rule_33 : decode cX7_rule 33 = .ok (.aload_n 0, 1) := by decide +kernel
theorem dX7_rule_34 : decode cX7_rule 34 = .ok (.aload_n 2, 1) := by decide +kernel
theorem dX7_rule_35 : decode cX7_rule 35 = .ok (.putfield 78, 3) := by decide +kernel
theorem dX7_rule_38 : decode cX7_rule 38 = .ok (.iconst 0, 1) := by decide +kernel
theorem dX7_rule_39 : decode cX7_rule 39 = .ok (.ireturn, 1) := by decide +kernel
theorem dX7_set_0 : decode cX7_set 0 = .ok (.iconst (-1), 1) := by decide +kernel
theorem dX7_set_1 : decode cX7_set 1 = .ok (.istore_n 3, 1) := by decide +kernel
theorem dX7_set_2 : decode cX7_set 2 = .ok (.iload_n 1, 1) := by decide +kernel
theorem dX7_set_3 : decode cX7_set 3 = .ok (.ifCond .ne 33, 3) := by decide +kernel
theorem dX7_set_6 : decode cX7_set 6 = .ok (.iload_n 2, 1) := by decide +kernel
theorem dX7_set_7 : decode cX7_set 7 = .ok (.iconst 1, 1) := by decide +kernel
theorem dX7_set_8 : decode cX7_set 8 = .ok (.if_icmp .lt 28, 3) := by decide +kernel
theorem dX7_set_11 : decode cX7_set 11 = .ok (.iload_n 2, 1) := by decide +kernel
theorem dX7_set_12 : decode cX7_set 12 = .ok (.bipush 8, 2) := by decide +kernel
theorem dX7_set_14 : decode cX7_set 14 = .ok (.if_icmp .gt 22, 3) := by decide +kernel
theorem dX7_set_17 : decode cX7_set 17 = .ok (.aload_n 0, 1) := by decide +kernel
theorem dX7_set_18 : decode cX7_set 18 = .ok (.getfield 19, 3) := by decide +kernel
theorem dX7_set_21 : decode cX7_set 21 = .ok (.getfield 141, 3) := by decide +kernel
theorem dX7_set_24 : decode cX7_set 24 = .ok (.istore_n 3, 1) := by decide +kernel
theorem dX7_set_25 : decode cX7_set 25 = .ok (.aload_n 0, 1) := by decide +kernel
theorem dX7_set_26 : decode cX7_set 26 = .ok (.getfield 19, 3) := by decide +kernel
theorem dX7_set_29 : decode cX7_set 29 = .ok (.iload_n 2, 1) := by decide +kernel
theorem dX7_set_30 : decode cX7_set 30 = .ok (.putfield 141, 3) := by decide +kernel
theorem dX7_set_33 : decode cX7_set 33 = .ok (.goto 34, 3) := by decide +kernel
theorem dX7_set_36 : decode cX7_set 36 = .ok (.iload_n 1, 1) := by decide +kernel
theorem dX7_set_37 : decode cX7_set 37 = .ok (.iconst 1, 1) := by decide +kernel
theorem dX7_set_38 : decode cX7_set 38 = .ok (.if_icmp .ne 29, 3) := by decide +kernel
theorem dX7_set_41 : decode cX7_set 41 = .ok (.iload_n 2, 1) := by decide +kernel
theorem dX7_set_42 : decode cX7_set 42 = .ok (.ifCond .lt 25, 3) := by decide +kernel
theorem dX7_set_45 : decode cX7_set 45 = .ok (.iload_n 2, 1) := by decide +kernel
theorem dX7_set_46 : decode cX7_set 46 = .ok (.bipush 9, 2) := by decide +kernel
theorem dX7_set_48 : decode cX7_set 48 = .ok (.if_icmp .gt 19, 3) := by decide +kernel
theorem dX7_set_51 : decode cX7_set 51 = .ok (.aload_n 0, 1) := by decide +kernel
theorem dX7_set_52 : decode cX7_set 52 = .ok (.getfield 19, 3) := by decide +kernel
theorem dX7_set_55 : decode cX7_set 55 = .ok (.getfield 145, 3) := by decide +kernel
theorem dX7_set_58 : decode cX7_set 58 = .ok (.istore_n 3, 1) := by decide +kernel
theorem dX7_set_59 : decode cX7_set 59 = .ok (.aload_n 0, 1) := by decide +kernel
theorem dX7_set_60 : decode cX7_set 60 = .ok (.getfield 19, 3) := by decide +kernel
theorem dX7_set_63 : decode cX7_set 63 = .ok (.iload_n 2, 1) := by decide +kernel
theorem dX7_set_64 : decode cX7_set 64 = .ok (.putfield 145, 3) := by decide +kernel
theorem dX7_set_67 : decode cX7_set 67 = .ok (.iload_n 3, 1) := by decide +kernel
theorem dX7_set_68 : decode cX7_set 68 = .ok (.ireturn, 1) := by decide +kernel
theorem dX7_shared_0 : decode cX7_shared 0 = .ok (.aload_n 0, 1) := by decide +kernel
theorem dX7_shared_1 : decode cX7_shared 1 = .ok (.getfield 19, 3) := by decide +kernel
theorem dX7_shared_4 : decode cX7_shared 4 = .ok (.iload_n 1, 1) := by decide +kernel
theorem dX7_shared_5 : decode cX7_shared 5 = .ok (.iload_n 2, 1) := by decide +kernel
theorem dX7_shared_6 : decode cX7_shared 6 = .ok (.invokevirtual 328, 3) := by decide +kernel
theorem dX7_shared_9 : decode cX7_shared 9 = .ok (.ifCond .ne 5, 3) := by decide +kernel
theorem dX7_shared_12 : decode cX7_shared 12 = .ok (.iconst (-1), 1) := by decide +kernel
theorem dX7_shared_13 : decode cX7_shared 13 = .ok (.ireturn, 1) := by decide +kernel
theorem dX7_sheet_0 : decode cX7_sheet 0 = .ok (.iload_n 1, 1) := by decide +kernel
theorem dX7_sheet_1 : decode cX7_sheet 1 = .ok (.ifCond .lt 14, 3) := by decide +kernel
theorem dX7_sheet_4 : decode cX7_sheet 4 = .ok (.iload_n 1, 1) := by decide +kernel
theorem dX7_sheet_5 : decode cX7_sheet 5 = .ok (.iconst 3, 1) := by decide +kernel
theorem dX7_sheet_6 : decode cX7_sheet 6 = .ok (.if_icmp .gt 9, 3) := by decide +kernel
theorem dX7_sheet_9 : decode cX7_sheet 9 = .ok (.iload_n 2, 1) := by decide +kernel
theorem dX7_sheet_10 : decode cX7_sheet 10 = .ok (.bipush 8, 2) := by decide +kernel
theorem dX7_sheet_12 : decode cX7_sheet 12 = .ok (.if_icmp .le 5, 3) := by decide +kernel
theorem dX7_sheet_15 : decode cX7_sheet 15 = .ok (.iconst (-1), 1) := by decide +kernel
theorem dX7_sheet_16 : decode cX7_sheet 16 = .ok (.ireturn, 1) := by decide +kernel
theorem dX7_sheet_17 : decode cX7_sheet 17 = .ok (.iload_n 1, 1) := by decide +kernel
theorem dX7_sheet_18 : decode cX7_sheet 18 = .ok (.iconst 3, 1) := by decide +kernel
theorem dX7_sheet_19 : decode cX7_sheet 19 = .ok (.if_icmp .ne 17, 3) := by decide +kernel
theorem dX7_sheet_22 : decode cX7_sheet 22 = .ok (.aload_n 0, 1) := by decide +kernel
theorem dX7_sheet_23 : decode cX7_sheet 23 = .ok (.getfield 26, 3) := by decide +kernel
theorem dX7_sheet_26 : decode cX7_sheet 26 = .ok (.getfield 125, 3) := by decide +kernel
theorem dX7_sheet_29 : decode cX7_sheet 29 = .ok (.iconst 0, 1) := by decide +kernel
theorem dX7_sheet_30 : decode cX7_sheet 30 = .ok (.invokestatic 148, 3) := by decide +kernel
theorem dX7_sheet_33 : decode cX7_sheet 33 = .ok (.bipush (-3), 2) := by decide +kernel
theorem dX7_sheet_35 : decode cX7_sheet 35 = .ok (.ireturn, 1) := by decide +kernel
theorem dX7_sheet_36 : decode cX7_sheet 36 = .ok (.iload_n 2, 1) := by decide +kernel
theorem dX7_sheet_37 : decode cX7_sheet 37 = .ok (.ifCond .ge 6, 3) := by decide +kernel
theorem dX7_sheet_40 : decode cX7_sheet 40 = .ok (.bipush (-2), 2) := by decide +kernel
theorem dX7_sheet_42 : decode cX7_sheet 42 = .ok (.ireturn, 1) := by decide +kernel
theorem dX7_sheet_43 : decode cX7_sheet 43 = .ok (.iconst 0, 1) := by decide +kernel
theorem dX7_sheet_44 : decode cX7_sheet 44 = .ok (.istore 5, 2) := by decide +kernel
theorem dX7_sheet_46 : decode cX7_sheet 46 = .ok (.iload 5, 2) := by decide +kernel
theorem dX7_sheet_48 : decode cX7_sheet 48 = .ok (.aload_n 0, 1) := by decide +kernel
theorem dX7_sheet_49 : decode cX7_sheet 49 = .ok (.getfield 19, 3) := by decide +kernel
theorem dX7_sheet_52 : decode cX7_sheet 52 = .ok (.getfield 154, 3) := by decide +kernel
theorem dX7_sheet_55 : decode cX7_sheet 55 = .ok (.if_icmp .ge 46, 3) := by decide +kernel
theorem dX7_sheet_101 : decode cX7_sheet 101 = .ok (.aload_n 0, 1) := by decide +kernel
theorem dX7_sheet_102 : decode cX7_sheet 102 = .ok (.getfield 26, 3) := by decide +kernel
theorem dX7_sheet_105 : decode cX7_sheet 105 = .ok (.invokevirtual 164, 3) := by decide +kernel
theorem dX7_sheet_108 : decode cX7_sheet 108 = .ok (.ireturn, 1) := by decide +kernel
theorem dX7_sign_0 : decode cX7_sign 0 = .ok (.aload_n 0, 1) := by decide +kernel
theorem dX7_sign_1 : decode cX7_sign 1 = .ok (.getfield 10, 3) := by decide +kernel
theorem dX7_sign_4 : decode cX7_sign 4 = .ok (.iload_n 1, 1) := by decide +kernel
theorem dX7_sign_5 : decode cX7_sign 5 = .ok (.invokevirtual 82, 3) := by decide +kernel
theorem dX7_sign_8 : decode cX7_sign 8 = .ok (.ireturn, 1) := by decide +kernel
theorem dX7_smoothest_0 : decode cX7_smoothest 0 = .ok (.aload_n 0, 1) := by decide +kernel
theorem dX7_smoothest_1 : decode cX7_smoothest 1 = .ok (.iconst (-1), 1) := by decide +kernel
theorem dX7_smoothest_2 : decode cX7_smoothest 2 = .ok (.invokevirtual 268, 3) := by decide +kernel
theorem dX7_smoothest_5 : decode cX7_smoothest 5 = .ok (.aload_n 0, 1) := by decide +kernel
theorem dX7_smoothest_6 : decode cX7_smoothest 6 = .ok (.invokevirtual 339, 3) := by decide +kernel
theorem dX7_smoothest_9 : decode cX7_smoothest 9 = .ok (.aload_n 0, 1) := by decide +kernel
theorem dX7_smoothest_10 : decode cX7_smoothest 10 = .ok (.getfield 54, 3) := by decide +kernel
theorem dX7_smoothest_13 : decode cX7_smoothest 13 = .ok (.aload_n 0, 1) := by decide +kernel
theorem dX7_smoothest_14 : decode cX7_smoothest 14 = .ok (.getfield 19, 3) := by decide +kernel
theorem dX7_smoothest_17 : decode cX7_smoothest 17 = .ok (.getfield 119, 3) := by decide +kernel
theorem dX7_smoothest_20 : decode cX7_smoothest 20 = .ok (.aload_n 0, 1) := by decide +kernel
theorem dX7_smoothest_21 : decode cX7_smoothest 21 = .ok (.getfield 19, 3) := by decide +kernel
theorem dX7_smoothest_24 : decode cX7_smoothest 24 = .ok (.getfield 154, 3) := by decide +kernel
theorem dX7_smoothest_27 : decode cX7_smoothest 27 = .ok (.invokevirtual 342, 3) := by decide +kernel
theorem dX7_smoothest_30 : decode cX7_smoothest 30 = .ok (.aload_n 0, 1) := by decide +kernel
theorem dX7_smoothest_31 : decode cX7_smoothest 31 = .ok (.getfield 54, 3) := by decide +kernel
theorem dX7_smoothest_34 : decode cX7_smoothest 34 = .ok (.invokevirtual 275, 3) := by decide +kernel
theorem dX7_smoothest_37 : decode cX7_smoothest 37 = .ok (.lstore_n 1, 1) := by decide +kernel
theorem dX7_smoothest_38 : decode cX7_smoothest 38 = .ok (.lload_n 1, 1) := by decide +kernel
theorem dX7_smoothest_39 : decode cX7_smoothest 39 = .ok (.ldc2_w 262, 3) := by decide +kernel
theorem dX7_smoothest_42 : decode cX7_smoothest 42 = .ok (.lcmp, 1) := by decide +kernel
theorem dX7_smoothest_43 : decode cX7_smoothest 43 = .ok (.ifCond .lt 8, 3) := by decide +kernel
theorem dX7_smoothest_46 : decode cX7_smoothest 46 = .ok (.bipush (-2), 2) := by decide +kernel
theorem dX7_smoothest_48 : decode cX7_smoothest 48 = .ok (.goto 8, 3) := by decide +kernel
theorem dX7_smoothest_56 : decode cX7_smoothest 56 = .ok (.ireturn, 1) := by decide +kernel
theorem dX7_spent_0 : decode cX7_spent 0 = .ok (.iload_n 1, 1) := by decide +kernel
theorem dX7_spent_1 : decode cX7_spent 1 = .ok (.ifCond .lt 10, 3) := by decide +kernel
theorem dX7_spent_4 : decode cX7_spent 4 = .ok (.iload_n 1, 1) := by decide +kernel
theorem dX7_spent_5 : decode cX7_spent 5 = .ok (.sipush 999, 3) := by decide +kernel
theorem dX7_spent_8 : decode cX7_spent 8 = .ok (.if_icmp .le 5, 3) := by decide +kernel
theorem dX7_spent_11 : decode cX7_spent 11 = .ok (.iconst (-1), 1) := by decide +kernel
theorem dX7_spent_12 : decode cX7_spent 12 = .ok (.ireturn, 1) := by decide +kernel
theorem dX7_spent_13 : decode cX7_spent 13 = .ok (.iconst 0, 1) := by decide +kernel
theorem dX7_spent_14 : decode cX7_spent 14 = .ok (.istore_n 2, 1) := by decide +kernel
theorem dX7_spent_15 : decode cX7_spent 15 = .ok (.iconst 0, 1) := by decide +kernel
theorem dX7_spent_16 : decode cX7_spent 16 = .ok (.istore_n 3, 1) := by decide +kernel
theorem dX7_spent_17 : decode cX7_spent 17 = .ok (.iconst 0, 1) := by decide +kernel
theorem dX7_spent_18 : decode cX7_spent 18 = .ok (.istore 4, 2) := by decide +kernel
theorem dX7_spent_20 : decode cX7_spent 20 = .ok (.iload 4, 2) := by decide +kernel
theorem dX7_spent_22 : decode cX7_spent 22 = .ok (.aload_n 0, 1) := by decide +kernel
theorem dX7_spent_23 : decode cX7_spent 23 = .ok (.getfield 19, 3) := by decide +kernel
theorem dX7_spent_26 : decode cX7_spent 26 = .ok (.getfield 154, 3) := by decide +kernel
theorem dX7_spent_29 : decode cX7_spent 29 = .ok (.if_icmp .ge 37, 3) := by decide +kernel
theorem dX7_spent_66 : decode cX7_spent 66 = .ok (.aload_n 0, 1) := by decide +kernel
theorem dX7_spent_67 : decode cX7_spent 67 = .ok (.getfield 61, 3) := by decide +kernel
theorem dX7_spent_70 : decode cX7_spent 70 = .ok (.iload_n 2, 1) := by decide +kernel
theorem dX7_spent_71 : decode cX7_spent 71 = .ok (.invokestatic 193, 3) := by decide +kernel
theorem dX7_spent_74 : decode cX7_spent 74 = .ok (.i2l, 1) := by decide +kernel
theorem dX7_spent_75 : decode cX7_spent 75 = .ok (.iload_n 3, 1) := by decide +kernel
theorem dX7_spent_76 : decode cX7_spent 76 = .ok (.i2l, 1) := by decide +kernel
theorem dX7_spent_77 : decode cX7_spent 77 = .ok (.invokevirtual 208, 3) := by decide +kernel
theorem dX7_spent_80 : decode cX7_spent 80 = .ok (.iload_n 2, 1) := by decide +kernel
theorem dX7_spent_81 : decode cX7_spent 81 = .ok (.ireturn, 1) := by decide +kernel
theorem dX7_sure_0 : decode cX7_sure 0 = .ok (.iload_n 1, 1) := by decide +kernel
theorem dX7_sure_1 : decode cX7_sure 1 = .ok (.ifCond .lt 25, 3) := by decide +kernel
theorem dX7_sure_4 : decode cX7_sure 4 = .ok (.iload_n 1, 1) := by decide +kernel
theorem dX7_sure_5 : decode cX7_sure 5 = .ok (.aload_n 0, 1) := by decide +kernel
theorem dX7_sure_6 : decode cX7_sure 6 = .ok (.getfield 19, 3) := by decide +kernel
theorem dX7_sure_9 : decode cX7_sure 9 = .ok (.getfield 141, 3) := by decide +kernel
theorem dX7_sure_12 : decode cX7_sure 12 = .ok (.if_icmp .ge 14, 3) := by decide +kernel
theorem dX7_sure_15 : decode cX7_sure 15 = .ok (.aload_n 0, 1) := by decide +kernel
theorem dX7_sure_16 : decode cX7_sure 16 = .ok (.getfield 19, 3) := by decide +kernel
theorem dX7_sure_19 : decode cX7_sure 19 = .ok (.iload_n 2, 1) := by decide +kernel
theorem dX7_sure_20 : decode cX7_sure 20 = .ok (.invokevirtual 110, 3) := by decide +kernel
theorem dX7_sure_23 : decode cX7_sure 23 = .ok (.ifCond .ne 5, 3) := by decide +kernel
theorem dX7_sure_26 : decode cX7_sure 26 = .ok (.iconst (-1), 1) := by decide +kernel
theorem dX7_sure_27 : decode cX7_sure 27 = .ok (.ireturn, 1) := by decide +kernel
theorem dX7_takes_0 : decode cX7_takes 0 = .ok (.aload_n 0, 1) := by decide +kernel
theorem dX7_takes_1 : decode cX7_takes 1 = .ok (.iconst (-1), 1) := by decide +kernel
theorem dX7_takes_2 : decode cX7_takes 2 = .ok (.invokevirtual 258, 3) := by decide +kernel
theorem dX7_takes_5 : decode cX7_takes 5 = .ok (.lstore_n 1, 1) := by decide +kernel
theorem dX7_takes_6 : decode cX7_takes 6 = .ok (.lload_n 1, 1) := by decide +kernel
theorem dX7_takes_7 : decode cX7_takes 7 = .ok (.ldc2_w 262, 3) := by decide +kernel
theorem dX7_takes_10 : decode cX7_takes 10 = .ok (.lcmp, 1) := by decide +kernel
theorem dX7_takes_11 : decode cX7_takes 11 = .ok (.ifCond .lt 6, 3) := by decide +kernel
theorem dX7_takes_14 : decode cX7_takes 14 = .ok (.bipush (-2), 2) := by decide +kernel
theorem dX7_takes_16 : decode cX7_takes 16 = .ok (.ireturn, 1) := by decide +kernel
theorem dX7_tellFraction_0 : decode cX7_tellFraction 0 = .ok (.lload_n 1, 1) := by decide +kernel
theorem dX7_tellFraction_1 : decode cX7_tellFraction 1 = .ok (.lload_n 3, 1) := by decide +kernel
theorem dX7_tellFraction_2 : decode cX7_tellFraction 2 = .ok (.invokestatic 403, 3) := by decide +kernel
theorem dX7_tellFraction_5 : decode cX7_tellFraction 5 = .ok (.lstore 5, 2) := by decide +kernel
theorem dX7_tellFraction_7 : decode cX7_tellFraction 7 = .ok (.lload 5, 2) := by decide +kernel
theorem dX7_tellFraction_9 : decode cX7_tellFraction 9 = .ok (.lconst 0, 1) := by decide +kernel
theorem dX7_tellFraction_10 : decode cX7_tellFraction 10 = .ok (.lcmp, 1) := by decide +kernel
theorem dX7_tellFraction_11 : decode cX7_tellFraction 11 = .ok (.ifCond .le 18, 3) := by decide +kernel
theorem dX7_tellFraction_14 : decode cX7_tellFraction 14 = .ok (.aload_n 0, 1) := by decide +kernel
theorem dX7_tellFraction_15 : decode cX7_tellFraction 15 = .ok (.getfield 61, 3) := by decide +kernel
theorem dX7_tellFraction_18 : decode cX7_tellFraction 18 = .ok (.lload_n 1, 1) := by decide +kernel
theorem dX7_tellFraction_19 : decode cX7_tellFraction 19 = .ok (.lload 5, 2) := by decide +kernel
theorem dX7_tellFraction_21 : decode cX7_tellFraction 21 = .ok (.ldiv, 1) := by decide +kernel
theorem dX7_tellFraction_22 : decode cX7_tellFraction 22 = .ok (.lload_n 3, 1) := by decide +kernel
theorem dX7_tellFraction_23 : decode cX7_tellFraction 23 = .ok (.lload 5, 2) := by decide +kernel
theorem dX7_tellFraction_25 : decode cX7_tellFraction 25 = .ok (.ldiv, 1) := by decide +kernel
theorem dX7_tellFraction_26 : decode cX7_tellFraction 26 = .ok (.invokevirtual 208, 3) := by decide +kernel
theorem dX7_tellFraction_29 : decode cX7_tellFraction 29 = .ok (.return_, 1) := by decide +kernel
theorem dX7_tellWays_0 : decode cX7_tellWays 0 = .ok (.aload_n 0, 1) := by decide +kernel
theorem dX7_tellWays_1 : decode cX7_tellWays 1 = .ok (.getfield 54, 3) := by decide +kernel
theorem dX7_tellWays_4 : decode cX7_tellWays 4 = .ok (.invokevirtual 351, 3) := by decide +kernel
theorem dX7_tellWays_7 : decode cX7_tellWays 7 = .ok (.istore_n 1, 1) := by decide +kernel
theorem dX7_tellWays_8 : decode cX7_tellWays 8 = .ok (.aload_n 0, 1) := by decide +kernel
theorem dX7_tellWays_9 : decode cX7_tellWays 9 = .ok (.getfield 61, 3) := by decide +kernel
theorem dX7_tellWays_12 : decode cX7_tellWays 12 = .ok (.invokevirtual 316, 3) := by decide +kernel
theorem dX7_tellWays_15 : decode cX7_tellWays 15 = .ok (.iload_n 1, 1) := by decide +kernel
theorem dX7_tellWays_16 : decode cX7_tellWays 16 = .ok (.ifCond .le 19, 3) := by decide +kernel
theorem dX7_tellWays_35 : decode cX7_tellWays 35 = .ok (.iload_n 1, 1) := by decide +kernel
theorem dX7_tellWays_36 : decode cX7_tellWays 36 = .ok (.ireturn, 1) := by decide +kernel
theorem dX7_thin_0 : decode cX7_thin 0 = .ok (.bipush 9, 2) := by decide +kernel
theorem dX7_thin_2 : decode cX7_thin 2 = .ok (.istore_n 1, 1) := by decide +kernel
theorem dX7_thin_3 : decode cX7_thin 3 = .ok (.iconst 0, 1) := by decide +kernel
theorem dX7_thin_4 : decode cX7_thin 4 = .ok (.istore_n 2, 1) := by decide +kernel
theorem dX7_thin_5 : decode cX7_thin 5 = .ok (.iconst 0, 1) := by decide +kernel
theorem dX7_thin_6 : decode cX7_thin 6 = .ok (.istore_n 3, 1) := by decide +kernel
theorem dX7_thin_7 : decode cX7_thin 7 = .ok (.iload_n 3, 1) := by decide +kernel
theorem dX7_thin_8 : decode cX7_thin 8 = .ok (.aload_n 0, 1) := by decide +kernel
theorem dX7_thin_9 : decode cX7_thin 9 = .ok (.getfield 19, 3) := by decide +kernel
theorem dX7_thin_12 : decode cX7_thin 12 = .ok (.getfield 141, 3) := by decide +kernel
theorem dX7_thin_15 : decode cX7_thin 15 = .ok (.if_icmp .ge 71, 3) := by decide +kernel
theorem dX7_thin_18 : decode cX7_thin 18 = .ok (.iconst 0, 1) := by decide +kernel
theorem dX7_thin_19 : decode cX7_thin 19 = .ok (.istore 4, 2) := by decide +kernel
theorem dX7_thin_21 : decode cX7_thin 21 = .ok (.iconst 0, 1) := by decide +kernel
theorem dX7_thin_22 : decode cX7_thin 22 = .ok (.istore 5, 2) := by decide +kernel
theorem dX7_thin_24 : decode cX7_thin 24 = .ok (.iload 5, 2) := by decide +kernel
theorem dX7_thin_26 : decode cX7_thin 26 = .ok (.aload_n 0, 1) := by decide +kernel
theorem dX7_thin_27 : decode cX7_thin 27 = .ok (.getfield 19, 3) := by decide +kernel
theorem dX7_thin_30 : decode cX7_thin 30 = .ok (.getfield 154, 3) := by decide +kernel
theorem dX7_thin_33 : decode cX7_thin 33 = .ok (.if_icmp .ge 36, 3) := by decide +kernel
theorem dX7_thin_69 : decode cX7_thin 69 = .ok (.iload 4, 2) := by decide +kernel
theorem dX7_thin_71 : decode cX7_thin 71 = .ok (.iload_n 1, 1) := by decide +kernel
theorem dX7_thin_72 : decode cX7_thin 72 = .ok (.if_icmp .ge 8, 3) := by decide +kernel
theorem dX7_thin_75 : decode cX7_thin 75 = .ok (.iload 4, 2) := by decide +kernel
theorem dX7_thin_77 : decode cX7_thin 77 = .ok (.istore_n 1, 1) := by decide +kernel
theorem dX7_thin_78 : decode cX7_thin 78 = .ok (.iload_n 3, 1) := by decide +kernel
theorem dX7_thin_79 : decode cX7_thin 79 = .ok (.istore_n 2, 1) := by decide +kernel
theorem dX7_thin_80 : decode cX7_thin 80 = .ok (.iinc 3 1, 3) := by decide +kernel
theorem dX7_thin_83 : decode cX7_thin 83 = .ok (.goto (-76), 3) := by decide +kernel
theorem dX7_thin_86 : decode cX7_thin 86 = .ok (.aload_n 0, 1) := by decide +kernel
theorem dX7_thin_87 : decode cX7_thin 87 = .ok (.getfield 61, 3) := by decide +kernel
theorem dX7_thin_90 : decode cX7_thin 90 = .ok (.iload_n 1, 1) := by decide +kernel
theorem dX7_thin_91 : decode cX7_thin 91 = .ok (.i2l, 1) := by decide +kernel
theorem dX7_thin_92 : decode cX7_thin 92 = .ok (.invokevirtual 247, 3) := by decide +kernel
theorem dX7_thin_95 : decode cX7_thin 95 = .ok (.iload_n 2, 1) := by decide +kernel
theorem dX7_thin_96 : decode cX7_thin 96 = .ok (.ireturn, 1) := by decide +kernel
theorem dX7_trade_0 : decode cX7_trade 0 = .ok (.aload_n 0, 1) := by decide +kernel
theorem dX7_trade_1 : decode cX7_trade 1 = .ok (.getfield 19, 3) := by decide +kernel
theorem dX7_trade_4 : decode cX7_trade 4 = .ok (.getfield 141, 3) := by decide +kernel
theorem dX7_trade_7 : decode cX7_trade 7 = .ok (.iconst 2, 1) := by decide +kernel
theorem dX7_trade_8 : decode cX7_trade 8 = .ok (.if_icmp .ge 6, 3) := by decide +kernel
theorem dX7_trade_14 : decode cX7_trade 14 = .ok (.aload_n 0, 1) := by decide +kernel
theorem dX7_trade_15 : decode cX7_trade 15 = .ok (.getfield 33, 3) := by decide +kernel
theorem dX7_trade_18 : decode cX7_trade 18 = .ok (.aload_n 0, 1) := by decide +kernel
theorem dX7_trade_19 : decode cX7_trade 19 = .ok (.getfield 26, 3) := by decide +kernel
theorem dX7_trade_22 : decode cX7_trade 22 = .ok (.invokevirtual 170, 3) := by decide +kernel
theorem dX7_trade_25 : decode cX7_trade 25 = .ok (.bipush 9, 2) := by decide +kernel
theorem dX7_trade_27 : decode cX7_trade 27 = .ok (.istore_n 1, 1) := by decide +kernel
theorem dX7_trade_28 : decode cX7_trade 28 = .ok (.iconst 0, 1) := by decide +kernel
theorem dX7_trade_29 : decode cX7_trade 29 = .ok (.istore_n 2, 1) := by decide +kernel
theorem dX7_trade_30 : decode cX7_trade 30 = .ok (.iconst 0, 1) := by decide +kernel
theorem dX7_trade_31 : decode cX7_trade 31 = .ok (.istore_n 3, 1) := by decide +kernel
theorem dX7_trade_32 : decode cX7_trade 32 = .ok (.iconst 0, 1) := by decide +kernel
theorem dX7_trade_33 : decode cX7_trade 33 = .ok (.istore 4, 2) := by decide +kernel
theorem dX7_trade_35 : decode cX7_trade 35 = .ok (.iload 4, 2) := by decide +kernel
theorem dX7_trade_37 : decode cX7_trade 37 = .ok (.aload_n 0, 1) := by decide +kernel
theorem dX7_trade_38 : decode cX7_trade 38 = .ok (.getfield 19, 3) := by decide +kernel
theorem dX7_trade_41 : decode cX7_trade 41 = .ok (.getfield 141, 3) := by decide +kernel
theorem dX7_trade_44 : decode cX7_trade 44 = .ok (.if_icmp .ge 58, 3) := by decide +kernel
theorem dX7_trade_47 : decode cX7_trade 47 = .ok (.iload 4, 2) := by decide +kernel
theorem dX7_trade_49 : decode cX7_trade 49 = .ok (.iconst 1, 1) := by decide +kernel
theorem dX7_trade_50 : decode cX7_trade 50 = .ok (.iadd, 1) := by decide +kernel
theorem dX7_trade_51 : decode cX7_trade 51 = .ok (.istore 5, 2) := by decide +kernel
theorem dX7_trade_53 : decode cX7_trade 53 = .ok (.iload 5, 2) := by decide +kernel
theorem dX7_trade_55 : decode cX7_trade 55 = .ok (.aload_n 0, 1) := by decide +kernel
theorem dX7_trade_56 : decode cX7_trade 56 = .ok (.getfield 19, 3) := by decide +kernel
theorem dX7_trade_59 : decode cX7_trade 59 = .ok (.getfield 141, 3) := by decide +kernel
theorem dX7_trade_62 : decode cX7_trade 62 = .ok (.if_icmp .ge 34, 3) := by decide +kernel
theorem dX7_trade_65 : decode cX7_trade 65 = .ok (.aload_n 0, 1) := by decide +kernel
theorem dX7_trade_66 : decode cX7_trade 66 = .ok (.iload 4, 2) := by decide +kernel
theorem dX7_trade_68 : decode cX7_trade 68 = .ok (.iload 5, 2) := by decide +kernel
theorem dX7_trade_70 : decode cX7_trade 70 = .ok (.invokevirtual 253, 3) := by decide +kernel
theorem dX7_trade_73 : decode cX7_trade 73 = .ok (.istore 6, 2) := by decide +kernel
theorem dX7_trade_75 : decode cX7_trade 75 = .ok (.iload 6, 2) := by decide +kernel
theorem dX7_trade_77 : decode cX7_trade 77 = .ok (.iload_n 1, 1) := by decide +kernel
theorem dX7_trade_78 : decode cX7_trade 78 = .ok (.if_icmp .ge 12, 3) := by decide +kernel
theorem dX7_trade_81 : decode cX7_trade 81 = .ok (.iload 6, 2) := by decide +kernel
theorem dX7_trade_83 : decode cX7_trade 83 = .ok (.istore_n 1, 1) := by decide +kernel
theorem dX7_trade_84 : decode cX7_trade 84 = .ok (.iload 4, 2) := by decide +kernel
theorem dX7_trade_86 : decode cX7_trade 86 = .ok (.istore_n 2, 1) := by decide +kernel
theorem dX7_trade_87 : decode cX7_trade 87 = .ok (.iload 5, 2) := by decide +kernel
theorem dX7_trade_89 : decode cX7_trade 89 = .ok (.istore_n 3, 1) := by decide +kernel
theorem dX7_trade_90 : decode cX7_trade 90 = .ok (.iinc 5 1, 3) := by decide +kernel
theorem dX7_trade_93 : decode cX7_trade 93 = .ok (.goto (-40), 3) := by decide +kernel
theorem dX7_trade_96 : decode cX7_trade 96 = .ok (.iinc 4 1, 3) := by decide +kernel
theorem dX7_trade_99 : decode cX7_trade 99 = .ok (.goto (-64), 3) := by decide +kernel
theorem dX7_trade_102 : decode cX7_trade 102 = .ok (.aload_n 0, 1) := by decide +kernel
theorem dX7_trade_103 : decode cX7_trade 103 = .ok (.getfield 19, 3) := by decide +kernel
theorem dX7_trade_106 : decode cX7_trade 106 = .ok (.aload_n 0, 1) := by decide +kernel
theorem dX7_trade_107 : decode cX7_trade 107 = .ok (.getfield 26, 3) := by decide +kernel
theorem dX7_trade_110 : decode cX7_trade 110 = .ok (.invokevirtual 232, 3) := by decide +kernel
theorem dX7_trade_113 : decode cX7_trade 113 = .ok (.aload_n 0, 1) := by decide +kernel
theorem dX7_trade_114 : decode cX7_trade 114 = .ok (.getfield 61, 3) := by decide +kernel
theorem dX7_trade_117 : decode cX7_trade 117 = .ok (.iload_n 2, 1) := by decide +kernel
theorem dX7_trade_118 : decode cX7_trade 118 = .ok (.i2l, 1) := by decide +kernel
theorem dX7_trade_119 : decode cX7_trade 119 = .ok (.iload_n 3, 1) := by decide +kernel
theorem dX7_trade_120 : decode cX7_trade 120 = .ok (.i2l, 1) := by decide +kernel
theorem dX7_trade_121 : decode cX7_trade 121 = .ok (.invokevirtual 208, 3) := by decide +kernel
theorem dX7_trade_124 : decode cX7_trade 124 = .ok (.aload_n 0, 1) := by decide +kernel
theorem dX7_trade_125 : decode cX7_trade 125 = .ok (.getfield 61, 3) := by decide +kernel
theorem dX7_trade_128 : decode cX7_trade 128 = .ok (.aload_n 0, 1) := by decide +kernel
theorem dX7_trade_129 : decode cX7_trade 129 = .ok (.getfield 19, 3) := by decide +kernel
theorem dX7_trade_132 : decode cX7_trade 132 = .ok (.getfield 235, 3) := by decide +kernel
theorem dX7_trade_135 : decode cX7_trade 135 = .ok (.invokestatic 193, 3) := by decide +kernel
theorem dX7_trade_138 : decode cX7_trade 138 = .ok (.i2l, 1) := by decide +kernel
theorem dX7_trade_139 : decode cX7_trade 139 = .ok (.invokevirtual 256, 3) := by decide +kernel
theorem dX7_trade_142 : decode cX7_trade 142 = .ok (.iload_n 1, 1) := by decide +kernel
theorem dX7_trade_143 : decode cX7_trade 143 = .ok (.ireturn, 1) := by decide +kernel
theorem dX7_undo_0 : decode cX7_undo 0 = .ok (.aload_n 0, 1) := by decide +kernel
theorem dX7_undo_1 : decode cX7_undo 1 = .ok (.getfield 39, 3) := by decide +kernel
theorem dX7_undo_4 : decode cX7_undo 4 = .ok (.aload_n 0, 1) := by decide +kernel
theorem dX7_undo_5 : decode cX7_undo 5 = .ok (.getfield 26, 3) := by decide +kernel
theorem dX7_undo_8 : decode cX7_undo 8 = .ok (.invokevirtual 228, 3) := by decide +kernel
theorem dX7_undo_11 : decode cX7_undo 11 = .ok (.ireturn, 1) := by decide +kernel
theorem dX7_vigil_0 : decode cX7_vigil 0 = .ok (.iload_n 1, 1) := by decide +kernel
theorem dX7_vigil_1 : decode cX7_vigil 1 = .ok (.ifCond .lt 9, 3) := by decide +kernel
theorem dX7_vigil_4 : decode cX7_vigil 4 = .ok (.iload_n 1, 1) := by decide +kernel
theorem dX7_vigil_5 : decode cX7_vigil 5 = .ok (.bipush 60, 2) := by decide +kernel
theorem dX7_vigil_7 : decode cX7_vigil 7 = .ok (.if_icmp .le 5, 3) := by decide +kernel
theorem dX7_vigil_10 : decode cX7_vigil 10 = .ok (.iconst (-1), 1) := by decide +kernel
theorem dX7_vigil_11 : decode cX7_vigil 11 = .ok (.ireturn, 1) := by decide +kernel
theorem dX7_vigil_12 : decode cX7_vigil 12 = .ok (.aload_n 0, 1) := by decide +kernel
theorem dX7_vigil_13 : decode cX7_vigil 13 = .ok (.getfield 33, 3) := by decide +kernel
theorem dX7_vigil_16 : decode cX7_vigil 16 = .ok (.aload_n 0, 1) := by decide +kernel
theorem dX7_vigil_17 : decode cX7_vigil 17 = .ok (.getfield 26, 3) := by decide +kernel
theorem dX7_vigil_20 : decode cX7_vigil 20 = .ok (.invokevirtual 170, 3) := by decide +kernel
theorem dX7_vigil_23 : decode cX7_vigil 23 = .ok (.iconst 0, 1) := by decide +kernel
theorem dX7_vigil_24 : decode cX7_vigil 24 = .ok (.istore_n 2, 1) := by decide +kernel
theorem dX7_vigil_25 : decode cX7_vigil 25 = .ok (.iconst (-1), 1) := by decide +kernel
theorem dX7_vigil_26 : decode cX7_vigil 26 = .ok (.istore_n 3, 1) := by decide +kernel
theorem dX7_vigil_27 : decode cX7_vigil 27 = .ok (.iconst 0, 1) := by decide +kernel
theorem dX7_vigil_28 : decode cX7_vigil 28 = .ok (.istore 4, 2) := by decide +kernel
theorem dX7_vigil_30 : decode cX7_vigil 30 = .ok (.iconst 0, 1) := by decide +kernel
theorem dX7_vigil_31 : decode cX7_vigil 31 = .ok (.istore 5, 2) := by decide +kernel
theorem dX7_vigil_33 : decode cX7_vigil 33 = .ok (.iload 5, 2) := by decide +kernel
theorem dX7_vigil_35 : decode cX7_vigil 35 = .ok (.iload_n 1, 1) := by decide +kernel
theorem dX7_vigil_36 : decode cX7_vigil 36 = .ok (.if_icmp .ge 57, 3) := by decide +kernel
theorem dX7_vigil_39 : decode cX7_vigil 39 = .ok (.aload_n 0, 1) := by decide +kernel
theorem dX7_vigil_40 : decode cX7_vigil 40 = .ok (.getfield 19, 3) := by decide +kernel
theorem dX7_vigil_43 : decode cX7_vigil 43 = .ok (.aload_n 0, 1) := by decide +kernel
theorem dX7_vigil_44 : decode cX7_vigil 44 = .ok (.getfield 33, 3) := by decide +kernel
theorem dX7_vigil_47 : decode cX7_vigil 47 = .ok (.invokevirtual 241, 3) := by decide +kernel
theorem dX7_vigil_50 : decode cX7_vigil 50 = .ok (.aload_n 0, 1) := by decide +kernel
theorem dX7_vigil_51 : decode cX7_vigil 51 = .ok (.getfield 19, 3) := by decide +kernel
theorem dX7_vigil_54 : decode cX7_vigil 54 = .ok (.getfield 235, 3) := by decide +kernel
theorem dX7_vigil_57 : decode cX7_vigil 57 = .ok (.ifCond .ne 10, 3) := by decide +kernel
theorem dX7_vigil_67 : decode cX7_vigil 67 = .ok (.iconst 0, 1) := by decide +kernel
theorem dX7_vigil_68 : decode cX7_vigil 68 = .ok (.istore 4, 2) := by decide +kernel
theorem dX7_vigil_70 : decode cX7_vigil 70 = .ok (.iload 4, 2) := by decide +kernel
theorem dX7_vigil_72 : decode cX7_vigil 72 = .ok (.iload_n 2, 1) := by decide +kernel
theorem dX7_vigil_73 : decode cX7_vigil 73 = .ok (.if_icmp .le 14, 3) := by decide +kernel
theorem dX7_vigil_87 : decode cX7_vigil 87 = .ok (.iinc 5 1, 3) := by decide +kernel
theorem dX7_vigil_90 : decode cX7_vigil 90 = .ok (.goto (-57), 3) := by decide +kernel
theorem dX7_vigil_93 : decode cX7_vigil 93 = .ok (.aload_n 0, 1) := by decide +kernel
theorem dX7_vigil_94 : decode cX7_vigil 94 = .ok (.getfield 61, 3) := by decide +kernel
theorem dX7_vigil_97 : decode cX7_vigil 97 = .ok (.iload_n 3, 1) := by decide +kernel
theorem dX7_vigil_98 : decode cX7_vigil 98 = .ok (.i2l, 1) := by decide +kernel
theorem dX7_vigil_99 : decode cX7_vigil 99 = .ok (.invokevirtual 247, 3) := by decide +kernel
theorem dX7_vigil_102 : decode cX7_vigil 102 = .ok (.iload_n 2, 1) := by decide +kernel
theorem dX7_vigil_103 : decode cX7_vigil 103 = .ok (.ireturn, 1) := by decide +kernel
theorem dX7_wellOnes_0 : decode cX7_wellOnes 0 = .ok (.iconst 1, 1) := by decide +kernel
theorem dX7_wellOnes_1 : decode cX7_wellOnes 1 = .ok (.aload_n 0, 1) := by decide +kernel
theorem dX7_wellOnes_2 : decode cX7_wellOnes 2 = .ok (.getfield 19, 3) := by decide +kernel
theorem dX7_wellOnes_5 : decode cX7_wellOnes 5 = .ok (.getfield 154, 3) := by decide +kernel
theorem dX7_wellOnes_8 : decode cX7_wellOnes 8 = .ok (.ishl, 1) := by decide +kernel
theorem dX7_wellOnes_9 : decode cX7_wellOnes 9 = .ok (.iconst 1, 1) := by decide +kernel
theorem dX7_wellOnes_10 : decode cX7_wellOnes 10 = .ok (.isub, 1) := by decide +kernel
theorem dX7_wellOnes_11 : decode cX7_wellOnes 11 = .ok (.aload_n 0, 1) := by decide +kernel
theorem dX7_wellOnes_12 : decode cX7_wellOnes 12 = .ok (.getfield 26, 3) := by decide +kernel
theorem dX7_wellOnes_15 : decode cX7_wellOnes 15 = .ok (.getfield 190, 3) := by decide +kernel
theorem dX7_wellOnes_18 : decode cX7_wellOnes 18 = .ok (.iconst (-1), 1) := by decide +kernel
theorem dX7_wellOnes_19 : decode cX7_wellOnes 19 = .ok (.ixor, 1) := by decide +kernel
theorem dX7_wellOnes_20 : decode cX7_wellOnes 20 = .ok (.iand, 1) := by decide +kernel
theorem dX7_wellOnes_21 : decode cX7_wellOnes 21 = .ok (.ireturn, 1) := by decide +kernel
theorem dX7_year_0 : decode cX7_year 0 = .ok (.aload_n 0, 1) := by decide +kernel
theorem dX7_year_1 : decode cX7_year 1 = .ok (.invokevirtual 212, 3) := by decide +kernel
theorem dX7_year_4 : decode cX7_year 4 = .ok (.istore_n 1, 1) := by decide +kernel
theorem dX7_year_5 : decode cX7_year 5 = .ok (.iload_n 1, 1) := by decide +kernel
theorem dX7_year_6 : decode cX7_year 6 = .ok (.iconst (-1), 1) := by decide +kernel
theorem dX7_year_7 : decode cX7_year 7 = .ok (.if_icmp .eq 14, 3) := by decide +kernel
theorem dX7_year_21 : decode cX7_year 21 = .ok (.aload_n 0, 1) := by decide +kernel
theorem dX7_year_22 : decode cX7_year 22 = .ok (.getfield 30, 3) := by decide +kernel
theorem dX7_year_25 : decode cX7_year 25 = .ok (.aload_n 0, 1) := by decide +kernel
theorem dX7_year_26 : decode cX7_year 26 = .ok (.getfield 26, 3) := by decide +kernel
theorem dX7_year_29 : decode cX7_year 29 = .ok (.invokevirtual 170, 3) := by decide +kernel
theorem dX7_year_32 : decode cX7_year 32 = .ok (.iconst 0, 1) := by decide +kernel
theorem dX7_year_33 : decode cX7_year 33 = .ok (.istore_n 2, 1) := by decide +kernel
theorem dX7_year_34 : decode cX7_year 34 = .ok (.iconst 0, 1) := by decide +kernel
theorem dX7_year_35 : decode cX7_year 35 = .ok (.istore_n 3, 1) := by decide +kernel
theorem dX7_year_36 : decode cX7_year 36 = .ok (.iconst 1, 1) := by decide +kernel
theorem dX7_year_37 : decode cX7_year 37 = .ok (.istore 4, 2) := by decide +kernel
theorem dX7_year_39 : decode cX7_year 39 = .ok (.iconst 0, 1) := by decide +kernel
theorem dX7_year_40 : decode cX7_year 40 = .ok (.istore 5, 2) := by decide +kernel
theorem dX7_year_42 : decode cX7_year 42 = .ok (.iload 5, 2) := by decide +kernel
theorem dX7_year_44 : decode cX7_year 44 = .ok (.bipush 60, 2) := by decide +kernel
theorem dX7_year_46 : decode cX7_year 46 = .ok (.if_icmp .ge 86, 3) := by decide +kernel
theorem dX7_year_49 : decode cX7_year 49 = .ok (.iload 4, 2) := by decide +kernel
theorem dX7_year_51 : decode cX7_year 51 = .ok (.ifCond .eq 81, 3) := by decide +kernel
theorem dX7_year_54 : decode cX7_year 54 = .ok (.iload_n 3, 1) := by decide +kernel
theorem dX7_year_55 : decode cX7_year 55 = .ok (.aload_n 0, 1) := by decide +kernel
theorem dX7_year_56 : decode cX7_year 56 = .ok (.getfield 10, 3) := by decide +kernel
theorem dX7_year_59 : decode cX7_year 59 = .ok (.getfield 215, 3) := by decide +kernel
theorem dX7_year_62 : decode cX7_year 62 = .ok (.if_icmp .ge 70, 3) := by decide +kernel
theorem dX7_year_132 : decode cX7_year 132 = .ok (.iload_n 2, 1) := by decide +kernel
theorem dX7_year_133 : decode cX7_year 133 = .ok (.ifCond .le 14, 3) := by decide +kernel
theorem dX7_year_147 : decode cX7_year 147 = .ok (.aload_n 0, 1) := by decide +kernel
theorem dX7_year_148 : decode cX7_year 148 = .ok (.getfield 10, 3) := by decide +kernel
theorem dX7_year_151 : decode cX7_year 151 = .ok (.invokevirtual 94, 3) := by decide +kernel
theorem dX7_year_154 : decode cX7_year 154 = .ok (.aload_n 0, 1) := by decide +kernel
theorem dX7_year_155 : decode cX7_year 155 = .ok (.getfield 61, 3) := by decide +kernel
theorem dX7_year_158 : decode cX7_year 158 = .ok (.iload 4, 2) := by decide +kernel
theorem dX7_year_160 : decode cX7_year 160 = .ok (.ifCond .eq 7, 3) := by decide +kernel
theorem dX7_year_163 : decode cX7_year 163 = .ok (.lconst 0, 1) := by decide +kernel
theorem dX7_year_164 : decode cX7_year 164 = .ok (.goto 4, 3) := by decide +kernel
theorem dX7_year_168 : decode cX7_year 168 = .ok (.aload_n 0, 1) := by decide +kernel
theorem dX7_year_169 : decode cX7_year 169 = .ok (.getfield 26, 3) := by decide +kernel
theorem dX7_year_172 : decode cX7_year 172 = .ok (.getfield 198, 3) := by decide +kernel
theorem dX7_year_175 : decode cX7_year 175 = .ok (.i2l, 1) := by decide +kernel
theorem dX7_year_176 : decode cX7_year 176 = .ok (.invokevirtual 208, 3) := by decide +kernel
theorem dX7_year_179 : decode cX7_year 179 = .ok (.iload_n 2, 1) := by decide +kernel
theorem dX7_year_180 : decode cX7_year 180 = .ok (.ireturn, 1) := by decide +kernel
theorem dX7_yearFault_0 : decode cX7_yearFault 0 = .ok (.aload_n 0, 1) := by decide +kernel
theorem dX7_yearFault_1 : decode cX7_yearFault 1 = .ok (.getfield 10, 3) := by decide +kernel
theorem dX7_yearFault_4 : decode cX7_yearFault 4 = .ok (.getfield 215, 3) := by decide +kernel
theorem dX7_yearFault_7 : decode cX7_yearFault 7 = .ok (.bipush 60, 2) := by decide +kernel
theorem dX7_yearFault_9 : decode cX7_yearFault 9 = .ok (.invokestatic 400, 3) := by decide +kernel
theorem dX7_yearFault_12 : decode cX7_yearFault 12 = .ok (.istore_n 1, 1) := by decide +kernel
theorem dX7_yearFault_13 : decode cX7_yearFault 13 = .ok (.iconst 0, 1) := by decide +kernel
theorem dX7_yearFault_14 : decode cX7_yearFault 14 = .ok (.istore_n 2, 1) := by decide +kernel
theorem dX7_yearFault_15 : decode cX7_yearFault 15 = .ok (.iconst 0, 1) := by decide +kernel
theorem dX7_yearFault_16 : decode cX7_yearFault 16 = .ok (.istore_n 3, 1) := by decide +kernel
theorem dX7_yearFault_17 : decode cX7_yearFault 17 = .ok (.iconst 0, 1) := by decide +kernel
theorem dX7_yearFault_18 : decode cX7_yearFault 18 = .ok (.istore 4, 2) := by decide +kernel
theorem dX7_yearFault_20 : decode cX7_yearFault 20 = .ok (.iload 4, 2) := by decide +kernel
theorem dX7_yearFault_22 : decode cX7_yearFault 22 = .ok (.iload_n 1, 1) := by decide +kernel
theorem dX7_yearFault_23 : decode cX7_yearFault 23 = .ok (.if_icmp .ge 86, 3) := by decide +kernel
theorem dX7_yearFault_109 : decode cX7_yearFault 109 = .ok (.aload_n 0, 1) := by decide +kernel
theorem dX7_yearFault_110 : decode cX7_yearFault 110 = .ok (.getfield 10, 3) := by decide +kernel
theorem dX7_yearFault_113 : decode cX7_yearFault 113 = .ok (.getfield 215, 3) := by decide +kernel
theorem dX7_yearFault_116 : decode cX7_yearFault 116 = .ok (.bipush 60, 2) := by decide +kernel
theorem dX7_yearFault_118 : decode cX7_yearFault 118 = .ok (.if_icmp .gt 7, 3) := by decide +kernel
theorem dX7_yearFault_121 : decode cX7_yearFault 121 = .ok (.iload_n 3, 1) := by decide +kernel
theorem dX7_yearFault_122 : decode cX7_yearFault 122 = .ok (.ifCond .le 7, 3) := by decide +kernel
theorem dX7_yearFault_129 : decode cX7_yearFault 129 = .ok (.iconst (-1), 1) := by decide +kernel
theorem dX7_yearFault_130 : decode cX7_yearFault 130 = .ok (.ireturn, 1) := by decide +kernel
theorem dX7_years_0 : decode cX7_years 0 = .ok (.iload_n 2, 1) := by decide +kernel
theorem dX7_years_1 : decode cX7_years 1 = .ok (.iconst 1, 1) := by decide +kernel
theorem dX7_years_2 : decode cX7_years 2 = .ok (.if_icmp .lt 9, 3) := by decide +kernel
theorem dX7_years_5 : decode cX7_years 5 = .ok (.iload_n 2, 1) := by decide +kernel
theorem dX7_years_6 : decode cX7_years 6 = .ok (.bipush 60, 2) := by decide +kernel
theorem dX7_years_8 : decode cX7_years 8 = .ok (.if_icmp .le 5, 3) := by decide +kernel
theorem dX7_years_11 : decode cX7_years 11 = .ok (.iconst (-1), 1) := by decide +kernel
theorem dX7_years_12 : decode cX7_years 12 = .ok (.ireturn, 1) := by decide +kernel
theorem dX7_years_13 : decode cX7_years 13 = .ok (.aload_n 0, 1) := by decide +kernel
theorem dX7_years_14 : decode cX7_years 14 = .ok (.getfield 33, 3) := by decide +kernel
theorem dX7_years_17 : decode cX7_years 17 = .ok (.aload_n 0, 1) := by decide +kernel
theorem dX7_years_18 : decode cX7_years 18 = .ok (.getfield 26, 3) := by decide +kernel
theorem dX7_years_21 : decode cX7_years 21 = .ok (.invokevirtual 170, 3) := by decide +kernel
theorem dX7_years_24 : decode cX7_years 24 = .ok (.aload_n 0, 1) := by decide +kernel
theorem dX7_years_25 : decode cX7_years 25 = .ok (.iload_n 1, 1) := by decide +kernel
theorem dX7_years_26 : decode cX7_years 26 = .ok (.putfield 385, 3) := by decide +kernel
theorem dX7_years_29 : decode cX7_years 29 = .ok (.iconst 0, 1) := by decide +kernel
theorem dX7_years_30 : decode cX7_years 30 = .ok (.istore_n 3, 1) := by decide +kernel
theorem dX7_years_31 : decode cX7_years 31 = .ok (.iload_n 3, 1) := by decide +kernel
theorem dX7_years_32 : decode cX7_years 32 = .ok (.iload_n 2, 1) := by decide +kernel
theorem dX7_years_33 : decode cX7_years 33 = .ok (.if_icmp .ge 13, 3) := by decide +kernel
theorem dX7_years_36 : decode cX7_years 36 = .ok (.aload_n 0, 1) := by decide +kernel
theorem dX7_years_37 : decode cX7_years 37 = .ok (.invokevirtual 388, 3) := by decide +kernel
theorem dX7_years_40 : decode cX7_years 40 = .ok (.iinc 3 1, 3) := by decide +kernel
theorem dX7_years_43 : decode cX7_years 43 = .ok (.goto (-12), 3) := by decide +kernel
theorem dX7_years_46 : decode cX7_years 46 = .ok (.aload_n 0, 1) := by decide +kernel
theorem dX7_years_47 : decode cX7_years 47 = .ok (.getfield 61, 3) := by decide +kernel
theorem dX7_years_50 : decode cX7_years 50 = .ok (.aload_n 0, 1) := by decide +kernel
theorem dX7_years_51 : decode cX7_years 51 = .ok (.getfield 33, 3) := by decide +kernel
theorem dX7_years_54 : decode cX7_years 54 = .ok (.getfield 201, 3) := by decide +kernel
theorem dX7_years_57 : decode cX7_years 57 = .ok (.aload_n 0, 1) := by decide +kernel
theorem dX7_years_58 : decode cX7_years 58 = .ok (.getfield 26, 3) := by decide +kernel
theorem dX7_years_61 : decode cX7_years 61 = .ok (.getfield 201, 3) := by decide +kernel
theorem dX7_years_64 : decode cX7_years 64 = .ok (.isub, 1) := by decide +kernel
theorem dX7_years_65 : decode cX7_years 65 = .ok (.i2l, 1) := by decide +kernel
theorem dX7_years_66 : decode cX7_years 66 = .ok (.aload_n 0, 1) := by decide +kernel
theorem dX7_years_67 : decode cX7_years 67 = .ok (.getfield 33, 3) := by decide +kernel
theorem dX7_years_70 : decode cX7_years 70 = .ok (.invokevirtual 164, 3) := by decide +kernel
theorem dX7_years_73 : decode cX7_years 73 = .ok (.i2l, 1) := by decide +kernel
theorem dX7_years_74 : decode cX7_years 74 = .ok (.invokevirtual 208, 3) := by decide +kernel
theorem dX7_years_77 : decode cX7_years 77 = .ok (.aload_n 0, 1) := by decide +kernel
theorem dX7_years_78 : decode cX7_years 78 = .ok (.getfield 33, 3) := by decide +kernel
theorem dX7_years_81 : decode cX7_years 81 = .ok (.getfield 198, 3) := by decide +kernel
theorem dX7_years_84 : decode cX7_years 84 = .ok (.aload_n 0, 1) := by decide +kernel
theorem dX7_years_85 : decode cX7_years 85 = .ok (.getfield 26, 3) := by decide +kernel
theorem dX7_years_88 : decode cX7_years 88 = .ok (.getfield 198, 3) := by decide +kernel
theorem dX7_years_91 : decode cX7_years 91 = .ok (.isub, 1) := by decide +kernel
theorem dX7_years_92 : decode cX7_years 92 = .ok (.ireturn, 1) := by decide +kernel
theorem dX8_able_0 : decode cX8_able 0 = .ok (.aload_n 0, 1) := by decide +kernel
theorem dX8_able_1 : decode cX8_able 1 = .ok (.iconst 0, 1) := by decide +kernel
theorem dX8_able_2 : decode cX8_able 2 = .ok (.putfield 114, 3) := by decide +kernel
theorem dX8_able_5 : decode cX8_able 5 = .ok (.iload_n 1, 1) := by decide +kernel
theorem dX8_able_6 : decode cX8_able 6 = .ok (.invokestatic 242, 3) := by decide +kernel
theorem dX8_able_9 : decode cX8_able 9 = .ok (.ifCond .ne 5, 3) := by decide +kernel
theorem dX8_able_12 : decode cX8_able 12 = .ok (.iconst (-1), 1) := by decide +kernel
theorem dX8_able_13 : decode cX8_able 13 = .ok (.ireturn, 1) := by decide +kernel
theorem dX8_able_14 : decode cX8_able 14 = .ok (.iconst 0, 1) := by decide +kernel
theorem dX8_able_15 : decode cX8_able 15 = .ok (.istore_n 2, 1) := by decide +kernel
theorem dX8_able_16 : decode cX8_able 16 = .ok (.aload_n 0, 1) := by decide +kernel
theorem dX8_able_17 : decode cX8_able 17 = .ok (.iconst 0, 1) := by decide +kernel
theorem dX8_able_18 : decode cX8_able 18 = .ok (.putfield 117, 3) := by decide +kernel
theorem dX8_able_21 : decode cX8_able 21 = .ok (.iconst 0, 1) := by decide +kernel
theorem dX8_able_22 : decode cX8_able 22 = .ok (.istore_n 3, 1) := by decide +kernel
theorem dX8_able_23 : decode cX8_able 23 = .ok (.iload_n 3, 1) := by decide +kernel
theorem dX8_able_24 : decode cX8_able 24 = .ok (.aload_n 0, 1) := by decide +kernel
theorem dX8_able_25 : decode cX8_able 25 = .ok (.getfield 120, 3) := by decide +kernel
theorem dX8_able_28 : decode cX8_able 28 = .ok (.if_icmp .ge 128, 3) := by decide +kernel
theorem dX8_able_156 : decode cX8_able 156 = .ok (.aload_n 0, 1) := by decide +kernel
theorem dX8_able_157 : decode cX8_able 157 = .ok (.getfield 117, 3) := by decide +kernel
theorem dX8_able_160 : decode cX8_able 160 = .ok (.ireturn, 1) := by decide +kernel
theorem dX8_ableMany_0 : decode cX8_ableMany 0 = .ok (.iconst 0, 1) := by decide +kernel
theorem dX8_ableMany_1 : decode cX8_ableMany 1 = .ok (.istore_n 2, 1) := by decide +kernel
theorem dX8_ableMany_2 : decode cX8_ableMany 2 = .ok (.iconst 0, 1) := by decide +kernel
theorem dX8_ableMany_3 : decode cX8_ableMany 3 = .ok (.istore_n 3, 1) := by decide +kernel
theorem dX8_ableMany_4 : decode cX8_ableMany 4 = .ok (.iload_n 3, 1) := by decide +kernel
theorem dX8_ableMany_5 : decode cX8_ableMany 5 = .ok (.aload_n 0, 1) := by decide +kernel
theorem dX8_ableMany_6 : decode cX8_ableMany 6 = .ok (.getfield 120, 3) := by decide +kernel
theorem dX8_ableMany_9 : decode cX8_ableMany 9 = .ok (.if_icmp .ge 42, 3) := by decide +kernel
theorem dX8_ableMany_51 : decode cX8_ableMany 51 = .ok (.iload_n 2, 1) := by decide +kernel
theorem dX8_ableMany_52 : decode cX8_ableMany 52 = .ok (.ireturn, 1) := by decide +kernel
theorem dX8_again_0 : decode cX8_again 0 = .ok (.aload_n 0, 1) := by decide +kernel
theorem dX8_again_1 : decode cX8_again 1 = .ok (.iconst 0, 1) := by decide +kernel
theorem dX8_again_2 : decode cX8_again 2 = .ok (.putfield 114, 3) := by decide +kernel
theorem dX8_again_5 : decode cX8_again 5 = .ok (.iload_n 1, 1) := by decide +kernel
theorem dX8_again_6 : decode cX8_again 6 = .ok (.iconst 0, 1) := by decide +kernel
theorem dX8_again_7 : decode cX8_again 7 = .ok (.iconst 1, 1) := by decide +kernel
theorem dX8_again_8 : decode cX8_again 8 = .ok (.invokestatic 123, 3) := by decide +kernel
theorem dX8_again_11 : decode cX8_again 11 = .ok (.ifCond .eq 25, 3) := by decide +kernel
theorem dX8_again_14 : decode cX8_again 14 = .ok (.aload_n 0, 1) := by decide +kernel
theorem dX8_again_15 : decode cX8_again 15 = .ok (.getfield 108, 3) := by decide +kernel
theorem dX8_again_18 : decode cX8_again 18 = .ok (.iload_n 1, 1) := by decide +kernel
theorem dX8_again_19 : decode cX8_again 19 = .ok (.baload, 1) := by decide +kernel
theorem dX8_again_20 : decode cX8_again 20 = .ok (.ifCond .eq 16, 3) := by decide +kernel
theorem dX8_again_36 : decode cX8_again 36 = .ok (.iconst 0, 1) := by decide +kernel
theorem dX8_again_37 : decode cX8_again 37 = .ok (.ireturn, 1) := by decide +kernel
theorem dX8_areTwo_0 : decode cX8_areTwo 0 = .ok (.aload_n 0, 1) := by decide +kernel
theorem dX8_areTwo_1 : decode cX8_areTwo 1 = .ok (.iload_n 1, 1) := by decide +kernel
theorem dX8_areTwo_2 : decode cX8_areTwo 2 = .ok (.invokevirtual 127, 3) := by decide +kernel
theorem dX8_areTwo_5 : decode cX8_areTwo 5 = .ok (.ifCond .eq 20, 3) := by decide +kernel
theorem dX8_areTwo_25 : decode cX8_areTwo 25 = .ok (.iconst 0, 1) := by decide +kernel
theorem dX8_areTwo_26 : decode cX8_areTwo 26 = .ok (.ireturn, 1) := by decide +kernel
theorem dX8_ask_0 : decode cX8_ask 0 = .ok (.aload_n 0, 1) := by decide +kernel
theorem dX8_ask_1 : decode cX8_ask 1 = .ok (.iconst 0, 1) := by decide +kernel
theorem dX8_ask_2 : decode cX8_ask 2 = .ok (.putfield 114, 3) := by decide +kernel
theorem dX8_ask_5 : decode cX8_ask 5 = .ok (.aload_n 0, 1) := by decide +kernel
theorem dX8_ask_6 : decode cX8_ask 6 = .ok (.iconst (-1), 1) := by decide +kernel
theorem dX8_ask_7 : decode cX8_ask 7 = .ok (.iconst (-1), 1) := by decide +kernel
theorem dX8_ask_8 : decode cX8_ask 8 = .ok (.invokevirtual 371, 3) := by decide +kernel
theorem dX8_ask_11 : decode cX8_ask 11 = .ok (.ifCond .ne 6, 3) := by decide +kernel
theorem dX8_ask_14 : decode cX8_ask 14 = .ok (.bipush (-2), 2) := by decide +kernel
theorem dX8_ask_16 : decode cX8_ask 16 = .ok (.ireturn, 1) := by decide +kernel
theorem dX8_away_0 : decode cX8_away 0 = .ok (.aload_n 0, 1) := by decide +kernel
theorem dX8_away_1 : decode cX8_away 1 = .ok (.iconst 0, 1) := by decide +kernel
theorem dX8_away_2 : decode cX8_away 2 = .ok (.putfield 114, 3) := by decide +kernel
theorem dX8_away_5 : decode cX8_away 5 = .ok (.aload_n 0, 1) := by decide +kernel
theorem dX8_away_6 : decode cX8_away 6 = .ok (.invokevirtual 347, 3) := by decide +kernel
theorem dX8_away_9 : decode cX8_away 9 = .ok (.iconst 1, 1) := by decide +kernel
theorem dX8_away_10 : decode cX8_away 10 = .ok (.aload_n 0, 1) := by decide +kernel
theorem dX8_away_11 : decode cX8_away 11 = .ok (.getfield 120, 3) := by decide +kernel
theorem dX8_away_14 : decode cX8_away 14 = .ok (.ishl, 1) := by decide +kernel
theorem dX8_away_15 : decode cX8_away 15 = .ok (.iconst 1, 1) := by decide +kernel
theorem dX8_away_16 : decode cX8_away 16 = .ok (.isub, 1) := by decide +kernel
theorem dX8_away_17 : decode cX8_away 17 = .ok (.aload_n 0, 1) := by decide +kernel
theorem dX8_away_18 : decode cX8_away 18 = .ok (.aload_n 0, 1) := by decide +kernel
theorem dX8_away_19 : decode cX8_away 19 = .ok (.getfield 9, 3) := by decide +kernel
theorem dX8_away_22 : decode cX8_away 22 = .ok (.invokevirtual 261, 3) := by decide +kernel
theorem dX8_away_25 : decode cX8_away 25 = .ok (.iconst (-1), 1) := by decide +kernel
theorem dX8_away_26 : decode cX8_away 26 = .ok (.ixor, 1) := by decide +kernel
theorem dX8_away_27 : decode cX8_away 27 = .ok (.iand, 1) := by decide +kernel
theorem dX8_away_28 : decode cX8_away 28 = .ok (.istore_n 1, 1) := by decide +kernel
theorem dX8_away_29 : decode cX8_away 29 = .ok (.iconst (-1), 1) := by decide +kernel
theorem dX8_away_30 : decode cX8_away 30 = .ok (.istore_n 2, 1) := by decide +kernel
theorem dX8_away_31 : decode cX8_away 31 = .ok (.iconst 0, 1) := by decide +kernel
theorem dX8_away_32 : decode cX8_away 32 = .ok (.istore_n 3, 1) := by decide +kernel
theorem dX8_away_33 : decode cX8_away 33 = .ok (.iload_n 3, 1) := by decide +kernel
theorem dX8_away_34 : decode cX8_away 34 = .ok (.iload_n 1, 1) := by decide +kernel
theorem dX8_away_35 : decode cX8_away 35 = .ok (.if_icmp .gt 51, 3) := by decide +kernel
theorem dX8_away_38 : decode cX8_away 38 = .ok (.iload_n 3, 1) := by decide +kernel
theorem dX8_away_39 : decode cX8_away 39 = .ok (.iload_n 1, 1) := by decide +kernel
theorem dX8_away_40 : decode cX8_away 40 = .ok (.iconst (-1), 1) := by decide +kernel
theorem dX8_away_41 : decode cX8_away 41 = .ok (.ixor, 1) := by decide +kernel
theorem dX8_away_42 : decode cX8_away 42 = .ok (.iand, 1) := by decide +kernel
theorem dX8_away_43 : decode cX8_away 43 = .ok (.ifCond .ne 37, 3) := by decide +kernel
theorem dX8_away_46 : decode cX8_away 46 = .ok (.aload_n 0, 1) := by decide +kernel
theorem dX8_away_47 : decode cX8_away 47 = .ok (.getfield 95, 3) := by decide +kernel
theorem dX8_away_50 : decode cX8_away 50 = .ok (.iload_n 1, 1) := by decide +kernel
theorem dX8_away_51 : decode cX8_away 51 = .ok (.iload_n 3, 1) := by decide +kernel
theorem dX8_away_52 : decode cX8_away 52 = .ok (.iconst (-1), 1) := by decide +kernel
theorem dX8_away_53 : decode cX8_away 53 = .ok (.ixor, 1) := by decide +kernel
theorem dX8_away_54 : decode cX8_away 54 = .ok (.iand, 1) := by decide +kernel
theorem dX8_away_55 : decode cX8_away 55 = .ok (.baload, 1) := by decide +kernel
theorem dX8_away_56 : decode cX8_away 56 = .ok (.ifCond .ne 6, 3) := by decide +kernel
theorem dX8_away_59 : decode cX8_away 59 = .ok (.goto 21, 3) := by decide +kernel
theorem dX8_away_80 : decode cX8_away 80 = .ok (.iinc 3 1, 3) := by decide +kernel
theorem dX8_away_83 : decode cX8_away 83 = .ok (.goto (-50), 3) := by decide +kernel
theorem dX8_away_86 : decode cX8_away 86 = .ok (.iload_n 2, 1) := by decide +kernel
theorem dX8_away_87 : decode cX8_away 87 = .ok (.iconst (-1), 1) := by decide +kernel
theorem dX8_away_88 : decode cX8_away 88 = .ok (.if_icmp .ne 6, 3) := by decide +kernel
theorem dX8_away_91 : decode cX8_away 91 = .ok (.bipush (-2), 2) := by decide +kernel
theorem dX8_away_93 : decode cX8_away 93 = .ok (.ireturn, 1) := by decide +kernel
theorem dX8_bare_0 : decode cX8_bare 0 = .ok (.aload_n 0, 1) := by decide +kernel
theorem dX8_bare_1 : decode cX8_bare 1 = .ok (.iconst 0, 1) := by decide +kernel
theorem dX8_bare_2 : decode cX8_bare 2 = .ok (.putfield 114, 3) := by decide +kernel
theorem dX8_bare_5 : decode cX8_bare 5 = .ok (.aload_n 0, 1) := by decide +kernel
theorem dX8_bare_6 : decode cX8_bare 6 = .ok (.iconst (-1), 1) := by decide +kernel
theorem dX8_bare_7 : decode cX8_bare 7 = .ok (.invokevirtual 335, 3) := by decide +kernel
theorem dX8_bare_10 : decode cX8_bare 10 = .ok (.aload_n 0, 1) := by decide +kernel
theorem dX8_bare_11 : decode cX8_bare 11 = .ok (.iconst 2, 1) := by decide +kernel
theorem dX8_bare_12 : decode cX8_bare 12 = .ok (.invokevirtual 329, 3) := by decide +kernel
theorem dX8_bare_15 : decode cX8_bare 15 = .ok (.pop, 1) := by decide +kernel
theorem dX8_bare_16 : decode cX8_bare 16 = .ok (.iconst (-1), 1) := by decide +kernel
theorem dX8_bare_17 : decode cX8_bare 17 = .ok (.istore_n 1, 1) := by decide +kernel
theorem dX8_bare_18 : decode cX8_bare 18 = .ok (.iconst 1, 1) := by decide +kernel
theorem dX8_bare_19 : decode cX8_bare 19 = .ok (.istore_n 2, 1) := by decide +kernel
theorem dX8_bare_20 : decode cX8_bare 20 = .ok (.iload_n 2, 1) := by decide +kernel
theorem dX8_bare_21 : decode cX8_bare 21 = .ok (.aload_n 0, 1) := by decide +kernel
theorem dX8_bare_22 : decode cX8_bare 22 = .ok (.invokevirtual 307, 3) := by decide +kernel
theorem dX8_bare_25 : decode cX8_bare 25 = .ok (.if_icmp .gt 38, 3) := by decide +kernel
theorem dX8_bare_28 : decode cX8_bare 28 = .ok (.aload_n 0, 1) := by decide +kernel
theorem dX8_bare_29 : decode cX8_bare 29 = .ok (.getfield 82, 3) := by decide +kernel
theorem dX8_bare_32 : decode cX8_bare 32 = .ok (.iload_n 2, 1) := by decide +kernel
theorem dX8_bare_33 : decode cX8_bare 33 = .ok (.iaload, 1) := by decide +kernel
theorem dX8_bare_34 : decode cX8_bare 34 = .ok (.ldc 88, 2) := by decide +kernel
theorem dX8_bare_36 : decode cX8_bare 36 = .ok (.if_icmp .ne 21, 3) := by decide +kernel
theorem dX8_bare_39 : decode cX8_bare 39 = .ok (.iload_n 1, 1) := by decide +kernel
theorem dX8_bare_40 : decode cX8_bare 40 = .ok (.iconst (-1), 1) := by decide +kernel
theorem dX8_bare_41 : decode cX8_bare 41 = .ok (.if_icmp .eq 14, 3) := by decide +kernel
theorem dX8_bare_44 : decode cX8_bare 44 = .ok (.iload_n 2, 1) := by decide +kernel
theorem dX8_bare_45 : decode cX8_bare 45 = .ok (.invokestatic 221, 3) := by decide +kernel
theorem dX8_bare_48 : decode cX8_bare 48 = .ok (.iload_n 1, 1) := by decide +kernel
theorem dX8_bare_49 : decode cX8_bare 49 = .ok (.invokestatic 221, 3) := by decide +kernel
theorem dX8_bare_52 : decode cX8_bare 52 = .ok (.if_icmp .ge 5, 3) := by decide +kernel
theorem dX8_bare_55 : decode cX8_bare 55 = .ok (.iload_n 2, 1) := by decide +kernel
theorem dX8_bare_56 : decode cX8_bare 56 = .ok (.istore_n 1, 1) := by decide +kernel
theorem dX8_bare_57 : decode cX8_bare 57 = .ok (.iinc 2 1, 3) := by decide +kernel
theorem dX8_bare_60 : decode cX8_bare 60 = .ok (.goto (-40), 3) := by decide +kernel
theorem dX8_bare_63 : decode cX8_bare 63 = .ok (.iload_n 1, 1) := by decide +kernel
theorem dX8_bare_64 : decode cX8_bare 64 = .ok (.iconst (-1), 1) := by decide +kernel
theorem dX8_bare_65 : decode cX8_bare 65 = .ok (.if_icmp .ne 6, 3) := by decide +kernel
theorem dX8_bare_71 : decode cX8_bare 71 = .ok (.aload_n 0, 1) := by decide +kernel
theorem dX8_bare_72 : decode cX8_bare 72 = .ok (.iconst 0, 1) := by decide +kernel
theorem dX8_bare_73 : decode cX8_bare 73 = .ok (.putfield 117, 3) := by decide +kernel
theorem dX8_bare_76 : decode cX8_bare 76 = .ok (.aload_n 0, 1) := by decide +kernel
theorem dX8_bare_77 : decode cX8_bare 77 = .ok (.iload_n 1, 1) := by decide +kernel
theorem dX8_bare_78 : decode cX8_bare 78 = .ok (.i2l, 1) := by decide +kernel
theorem dX8_bare_79 : decode cX8_bare 79 = .ok (.invokevirtual 284, 3) := by decide +kernel
theorem dX8_bare_82 : decode cX8_bare 82 = .ok (.iload_n 1, 1) := by decide +kernel
theorem dX8_bare_83 : decode cX8_bare 83 = .ok (.invokestatic 221, 3) := by decide +kernel
theorem dX8_bare_86 : decode cX8_bare 86 = .ok (.ireturn, 1) := by decide +kernel
theorem dX8_begin_0 : decode cX8_begin 0 = .ok (.aload_n 0, 1) := by decide +kernel
theorem dX8_begin_1 : decode cX8_begin 1 = .ok (.aload_n 1, 1) := by decide +kernel
theorem dX8_begin_2 : decode cX8_begin 2 = .ok (.putfield 134, 3) := by decide +kernel
theorem dX8_begin_5 : decode cX8_begin 5 = .ok (.aload_n 0, 1) := by decide +kernel
theorem dX8_begin_6 : decode cX8_begin 6 = .ok (.iload_n 2, 1) := by decide +kernel
theorem dX8_begin_7 : decode cX8_begin 7 = .ok (.putfield 137, 3) := by decide +kernel
theorem dX8_begin_10 : decode cX8_begin 10 = .ok (.aload_n 0, 1) := by decide +kernel
theorem dX8_begin_11 : decode cX8_begin 11 = .ok (.iload_n 3, 1) := by decide +kernel
theorem dX8_begin_12 : decode cX8_begin 12 = .ok (.putfield 140, 3) := by decide +kernel
theorem dX8_begin_15 : decode cX8_begin 15 = .ok (.aload_n 0, 1) := by decide +kernel
theorem dX8_begin_16 : decode cX8_begin 16 = .ok (.iconst 0, 1) := by decide +kernel
theorem dX8_begin_17 : decode cX8_begin 17 = .ok (.putfield 143, 3) := by decide +kernel
theorem dX8_begin_20 : decode cX8_begin 20 = .ok (.aload_n 0, 1) := by decide +kernel
theorem dX8_begin_21 : decode cX8_begin 21 = .ok (.iconst (-1), 1) := by decide +kernel
theorem dX8_begin_22 : decode cX8_begin 22 = .ok (.putfield 146, 3) := by decide +kernel
theorem dX8_begin_25 : decode cX8_begin 25 = .ok (.return_, 1) := by decide +kernel
theorem dX8_beginText_0 : decode cX8_beginText 0 = .ok (.aload_n 0, 1) := by decide +kernel
theorem dX8_beginText_1 : decode cX8_beginText 1 = .ok (.aload_n 0, 1) := by decide +kernel
theorem dX8_beginText_2 : decode cX8_beginText 2 = .ok (.getfield 29, 3) := by decide +kernel
theorem dX8_beginText_5 : decode cX8_beginText 5 = .ok (.aload_n 0, 1) := by decide +kernel
theorem dX8_beginText_6 : decode cX8_beginText 6 = .ok (.getfield 131, 3) := by decide +kernel
theorem dX8_beginText_9 : decode cX8_beginText 9 = .ok (.iload_n 1, 1) := by decide +kernel
theorem dX8_beginText_10 : decode cX8_beginText 10 = .ok (.invokevirtual 149, 3) := by decide +kernel
theorem dX8_beginText_13 : decode cX8_beginText 13 = .ok (.aload_n 0, 1) := by decide +kernel
theorem dX8_beginText_14 : decode cX8_beginText 14 = .ok (.iconst 0, 1) := by decide +kernel
theorem dX8_beginText_15 : decode cX8_beginText 15 = .ok (.putfield 131, 3) := by decide +kernel
theorem dX8_beginText_18 : decode cX8_beginText 18 = .ok (.return_, 1) := by decide +kernel
theorem dX8_changes_0 : decode cX8_changes 0 = .ok (.aload_n 0, 1) := by decide +kernel
theorem dX8_changes_1 : decode cX8_changes 1 = .ok (.iconst 0, 1) := by decide +kernel
theorem dX8_changes_2 : decode cX8_changes 2 = .ok (.putfield 114, 3) := by decide +kernel
theorem dX8_changes_5 : decode cX8_changes 5 = .ok (.iconst 0, 1) := by decide +kernel
theorem dX8_changes_6 : decode cX8_changes 6 = .ok (.istore_n 1, 1) := by decide +kernel
theorem dX8_changes_7 : decode cX8_changes 7 = .ok (.iconst 0, 1) := by decide +kernel
theorem dX8_changes_8 : decode cX8_changes 8 = .ok (.istore_n 2, 1) := by decide +kernel
theorem dX8_changes_9 : decode cX8_changes 9 = .ok (.iconst 0, 1) := by decide +kernel
theorem dX8_changes_10 : decode cX8_changes 10 = .ok (.istore_n 3, 1) := by decide +kernel
theorem dX8_changes_11 : decode cX8_changes 11 = .ok (.iconst 1, 1) := by decide +kernel
theorem dX8_changes_12 : decode cX8_changes 12 = .ok (.istore 4, 2) := by decide +kernel
theorem dX8_changes_14 : decode cX8_changes 14 = .ok (.iload 4, 2) := by decide +kernel
theorem dX8_changes_16 : decode cX8_changes 16 = .ok (.aload_n 0, 1) := by decide +kernel
theorem dX8_changes_17 : decode cX8_changes 17 = .ok (.getfield 13, 3) := by decide +kernel
theorem dX8_changes_20 : decode cX8_changes 20 = .ok (.if_icmp .ge 96, 3) := by decide +kernel
theorem dX8_changes_23 : decode cX8_changes 23 = .ok (.aload_n 0, 1) := by decide +kernel
theorem dX8_changes_24 : decode cX8_changes 24 = .ok (.getfield 9, 3) := by decide +kernel
theorem dX8_changes_27 : decode cX8_changes 27 = .ok (.iload 4, 2) := by decide +kernel
theorem dX8_changes_29 : decode cX8_changes 29 = .ok (.iconst 1, 1) := by decide +kernel
theorem dX8_changes_30 : decode cX8_changes 30 = .ok (.isub, 1) := by decide +kernel
theorem dX8_changes_31 : decode cX8_changes 31 = .ok (.iaload, 1) := by decide +kernel
theorem dX8_changes_32 : decode cX8_changes 32 = .ok (.istore 5, 2) := by decide +kernel
theorem dX8_changes_34 : decode cX8_changes 34 = .ok (.aload_n 0, 1) := by decide +kernel
theorem dX8_changes_35 : decode cX8_changes 35 = .ok (.getfield 9, 3) := by decide +kernel
theorem dX8_changes_38 : decode cX8_changes 38 = .ok (.iload 4, 2) := by decide +kernel
theorem dX8_changes_40 : decode cX8_changes 40 = .ok (.iaload, 1) := by decide +kernel
theorem dX8_changes_41 : decode cX8_changes 41 = .ok (.istore 6, 2) := by decide +kernel
theorem dX8_changes_43 : decode cX8_changes 43 = .ok (.iload 5, 2) := by decide +kernel
theorem dX8_changes_45 : decode cX8_changes 45 = .ok (.iconst (-1), 1) := by decide +kernel
theorem dX8_changes_46 : decode cX8_changes 46 = .ok (.if_icmp .eq 64, 3) := by decide +kernel
theorem dX8_changes_110 : decode cX8_changes 110 = .ok (.iinc 4 1, 3) := by decide +kernel
theorem dX8_changes_113 : decode cX8_changes 113 = .ok (.goto (-99), 3) := by decide +kernel
theorem dX8_changes_116 : decode cX8_changes 116 = .ok (.aload_n 0, 1) := by decide +kernel
theorem dX8_changes_117 : decode cX8_changes 117 = .ok (.iconst 0, 1) := by decide +kernel
theorem dX8_changes_118 : decode cX8_changes 118 = .ok (.putfield 117, 3) := by decide +kernel
theorem dX8_changes_121 : decode cX8_changes 121 = .ok (.aload_n 0, 1) := by decide +kernel
theorem dX8_changes_122 : decode cX8_changes 122 = .ok (.iload_n 2, 1) := by decide +kernel
theorem dX8_changes_123 : decode cX8_changes 123 = .ok (.i2l, 1) := by decide +kernel
theorem dX8_changes_124 : decode cX8_changes 124 = .ok (.invokevirtual 284, 3) := by decide +kernel
theorem dX8_changes_127 : decode cX8_changes 127 = .ok (.aload_n 0, 1) := by decide +kernel
theorem dX8_changes_128 : decode cX8_changes 128 = .ok (.iload_n 3, 1) := by decide +kernel
theorem dX8_changes_129 : decode cX8_changes 129 = .ok (.i2l, 1) := by decide +kernel
theorem dX8_changes_130 : decode cX8_changes 130 = .ok (.invokevirtual 284, 3) := by decide +kernel
theorem dX8_changes_133 : decode cX8_changes 133 = .ok (.iload_n 1, 1) := by decide +kernel
theorem dX8_changes_134 : decode cX8_changes 134 = .ok (.ireturn, 1) := by decide +kernel
theorem dX8_common_0 : decode cX8_common 0 = .ok (.lload_n 2, 1) := by decide +kernel
theorem dX8_common_1 : decode cX8_common 1 = .ok (.lconst 0, 1) := by decide +kernel
theorem dX8_common_2 : decode cX8_common 2 = .ok (.lcmp, 1) := by decide +kernel
theorem dX8_common_3 : decode cX8_common 3 = .ok (.ifCond .ne 7, 3) := by decide +kernel
theorem dX8_common_6 : decode cX8_common 6 = .ok (.lload_n 0, 1) := by decide +kernel
theorem dX8_common_7 : decode cX8_common 7 = .ok (.goto 10, 3) := by decide +kernel
theorem dX8_common_10 : decode cX8_common 10 = .ok (.lload_n 2, 1) := by decide +kernel
theorem dX8_common_11 : decode cX8_common 11 = .ok (.lload_n 0, 1) := by decide +kernel
theorem dX8_common_12 : decode cX8_common 12 = .ok (.lload_n 2, 1) := by decide +kernel
theorem dX8_common_13 : decode cX8_common 13 = .ok (.lrem, 1) := by decide +kernel
theorem dX8_common_14 : decode cX8_common 14 = .ok (.invokestatic 374, 3) := by decide +kernel
theorem dX8_common_17 : decode cX8_common 17 = .ok (.lreturn, 1) := by decide +kernel
theorem dX8_count_0 : decode cX8_count 0 = .ok (.aload_n 0, 1) := by decide +kernel
theorem dX8_count_1 : decode cX8_count 1 = .ok (.iconst 0, 1) := by decide +kernel
theorem dX8_count_2 : decode cX8_count 2 = .ok (.putfield 114, 3) := by decide +kernel
theorem dX8_count_5 : decode cX8_count 5 = .ok (.iload_n 1, 1) := by decide +kernel
theorem dX8_count_6 : decode cX8_count 6 = .ok (.bipush 20, 2) := by decide +kernel
theorem dX8_count_8 : decode cX8_count 8 = .ok (.bipush 27, 2) := by decide +kernel
theorem dX8_count_10 : decode cX8_count 10 = .ok (.invokestatic 123, 3) := by decide +kernel
theorem dX8_count_13 : decode cX8_count 13 = .ok (.ifCond .eq 13, 3) := by decide +kernel
theorem dX8_count_16 : decode cX8_count 16 = .ok (.aload_n 0, 1) := by decide +kernel
theorem dX8_count_17 : decode cX8_count 17 = .ok (.getfield 9, 3) := by decide +kernel
theorem dX8_count_20 : decode cX8_count 20 = .ok (.iload_n 1, 1) := by decide +kernel
theorem dX8_count_21 : decode cX8_count 21 = .ok (.bipush 20, 2) := by decide +kernel
theorem dX8_count_23 : decode cX8_count 23 = .ok (.isub, 1) := by decide +kernel
theorem dX8_count_24 : decode cX8_count 24 = .ok (.iaload, 1) := by decide +kernel
theorem dX8_count_25 : decode cX8_count 25 = .ok (.ireturn, 1) := by decide +kernel
theorem dX8_count_26 : decode cX8_count 26 = .ok (.iload_n 1, 1) := by decide +kernel
theorem dX8_count_27 : decode cX8_count 27 = .ok (.tableswitch 138 0 11 #[61, 66, 71, 76, 85, 93, 101, 109, 118, 123, 128, 133], 61) := by decide +kernel
theorem dX8_count_88 : decode cX8_count 88 = .ok (.aload_n 0, 1) := by decide +kernel
theorem dX8_count_89 : decode cX8_count 89 = .ok (.getfield 13, 3) := by decide +kernel
theorem dX8_count_92 : decode cX8_count 92 = .ok (.ireturn, 1) := by decide +kernel
theorem dX8_count_93 : decode cX8_count 93 = .ok (.aload_n 0, 1) := by decide +kernel
theorem dX8_count_94 : decode cX8_count 94 = .ok (.getfield 17, 3) := by decide +kernel
theorem dX8_count_97 : decode cX8_count 97 = .ok (.ireturn, 1) := by decide +kernel
theorem dX8_count_98 : decode cX8_count 98 = .ok (.aload_n 0, 1) := by decide +kernel
theorem dX8_count_99 : decode cX8_count 99 = .ok (.getfield 120, 3) := by decide +kernel
theorem dX8_count_102 : decode cX8_count 102 = .ok (.ireturn, 1) := by decide +kernel
theorem dX8_count_103 : decode cX8_count 103 = .ok (.aload_n 0, 1) := by decide +kernel
theorem dX8_count_104 : decode cX8_count 104 = .ok (.aload_n 0, 1) := by decide +kernel
theorem dX8_count_105 : decode cX8_count 105 = .ok (.getfield 9, 3) := by decide +kernel
theorem dX8_count_108 : decode cX8_count 108 = .ok (.invokevirtual 261, 3) := by decide +kernel
theorem dX8_count_111 : decode cX8_count 111 = .ok (.ireturn, 1) := by decide +kernel
theorem dX8_count_112 : decode cX8_count 112 = .ok (.aload_n 0, 1) := by decide +kernel
theorem dX8_count_113 : decode cX8_count 113 = .ok (.getfield 9, 3) := by decide +kernel
theorem dX8_count_116 : decode cX8_count 116 = .ok (.bipush 24, 2) := by decide +kernel
theorem dX8_count_118 : decode cX8_count 118 = .ok (.iaload, 1) := by decide +kernel
theorem dX8_count_119 : decode cX8_count 119 = .ok (.ireturn, 1) := by decide +kernel
theorem dX8_count_120 : decode cX8_count 120 = .ok (.aload_n 0, 1) := by decide +kernel
theorem dX8_count_121 : decode cX8_count 121 = .ok (.getfield 9, 3) := by decide +kernel
theorem dX8_count_124 : decode cX8_count 124 = .ok (.bipush 25, 2) := by decide +kernel
theorem dX8_count_126 : decode cX8_count 126 = .ok (.iaload, 1) := by decide +kernel
theorem dX8_count_127 : decode cX8_count 127 = .ok (.ireturn, 1) := by decide +kernel
theorem dX8_count_128 : decode cX8_count 128 = .ok (.aload_n 0, 1) := by decide +kernel
theorem dX8_count_129 : decode cX8_count 129 = .ok (.getfield 9, 3) := by decide +kernel
theorem dX8_count_132 : decode cX8_count 132 = .ok (.bipush 26, 2) := by decide +kernel
theorem dX8_count_134 : decode cX8_count 134 = .ok (.iaload, 1) := by decide +kernel
theorem dX8_count_135 : decode cX8_count 135 = .ok (.ireturn, 1) := by decide +kernel
theorem dX8_count_136 : decode cX8_count 136 = .ok (.aload_n 0, 1) := by decide +kernel
theorem dX8_count_137 : decode cX8_count 137 = .ok (.aload_n 0, 1) := by decide +kernel
theorem dX8_count_138 : decode cX8_count 138 = .ok (.getfield 9, 3) := by decide +kernel
theorem dX8_count_141 : decode cX8_count 141 = .ok (.invokevirtual 288, 3) := by decide +kernel
theorem dX8_count_144 : decode cX8_count 144 = .ok (.ireturn, 1) := by decide +kernel
theorem dX8_count_145 : decode cX8_count 145 = .ok (.aload_n 0, 1) := by decide +kernel
theorem dX8_count_146 : decode cX8_count 146 = .ok (.getfield 362, 3) := by decide +kernel
theorem dX8_count_149 : decode cX8_count 149 = .ok (.ireturn, 1) := by decide +kernel
theorem dX8_count_150 : decode cX8_count 150 = .ok (.aload_n 0, 1) := by decide +kernel
theorem dX8_count_151 : decode cX8_count 151 = .ok (.getfield 182, 3) := by decide +kernel
theorem dX8_count_154 : decode cX8_count 154 = .ok (.ireturn, 1) := by decide +kernel
theorem dX8_count_155 : decode cX8_count 155 = .ok (.aload_n 0, 1) := by decide +kernel
theorem dX8_count_156 : decode cX8_count 156 = .ok (.getfield 117, 3) := by decide +kernel
theorem dX8_count_159 : decode cX8_count 159 = .ok (.ireturn, 1) := by decide +kernel
theorem dX8_count_160 : decode cX8_count 160 = .ok (.aload_n 0, 1) := by decide +kernel
theorem dX8_count_161 : decode cX8_count 161 = .ok (.getfield 131, 3) := by decide +kernel
theorem dX8_count_164 : decode cX8_count 164 = .ok (.ireturn, 1) := by decide +kernel
theorem dX8_count_165 : decode cX8_count 165 = .ok (.bipush (-100), 2) := by decide +kernel
theorem dX8_count_167 : decode cX8_count 167 = .ok (.ireturn, 1) := by decide +kernel
theorem dX8_countWays_0 : decode cX8_countWays 0 = .ok (.iconst 0, 1) := by decide +kernel
theorem dX8_countWays_1 : decode cX8_countWays 1 = .ok (.istore_n 1, 1) := by decide +kernel
theorem dX8_countWays_2 : decode cX8_countWays 2 = .ok (.iload_n 1, 1) := by decide +kernel
theorem dX8_countWays_3 : decode cX8_countWays 3 = .ok (.aload_n 0, 1) := by decide +kernel
theorem dX8_countWays_4 : decode cX8_countWays 4 = .ok (.invokevirtual 307, 3) := by decide +kernel
theorem dX8_countWays_7 : decode cX8_countWays 7 = .ok (.if_icmp .gt 32, 3) := by decide +kernel
theorem dX8_countWays_10 : decode cX8_countWays 10 = .ok (.aload_n 0, 1) := by decide +kernel
theorem dX8_countWays_11 : decode cX8_countWays 11 = .ok (.getfield 85, 3) := by decide +kernel
theorem dX8_countWays_14 : decode cX8_countWays 14 = .ok (.aload_n 0, 1) := by decide +kernel
theorem dX8_countWays_15 : decode cX8_countWays 15 = .ok (.getfield 120, 3) := by decide +kernel
theorem dX8_countWays_18 : decode cX8_countWays 18 = .ok (.bipush 8, 2) := by decide +kernel
theorem dX8_countWays_20 : decode cX8_countWays 20 = .ok (.ishl, 1) := by decide +kernel
theorem dX8_countWays_21 : decode cX8_countWays 21 = .ok (.iload_n 1, 1) := by decide +kernel
theorem dX8_countWays_22 : decode cX8_countWays 22 = .ok (.ior, 1) := by decide +kernel
theorem dX8_countWays_23 : decode cX8_countWays 23 = .ok (.iload_n 1, 1) := by decide +kernel
theorem dX8_countWays_24 : decode cX8_countWays 24 = .ok (.ifCond .ne 7, 3) := by decide +kernel
theorem dX8_countWays_27 : decode cX8_countWays 27 = .ok (.iconst 1, 1) := by decide +kernel
theorem dX8_countWays_28 : decode cX8_countWays 28 = .ok (.goto 4, 3) := by decide +kernel
theorem dX8_countWays_31 : decode cX8_countWays 31 = .ok (.iconst 0, 1) := by decide +kernel
theorem dX8_countWays_32 : decode cX8_countWays 32 = .ok (.iastore, 1) := by decide +kernel
theorem dX8_countWays_33 : decode cX8_countWays 33 = .ok (.iinc 1 1, 3) := by decide +kernel
theorem dX8_countWays_36 : decode cX8_countWays 36 = .ok (.goto (-34), 3) := by decide +kernel
theorem dX8_countWays_39 : decode cX8_countWays 39 = .ok (.aload_n 0, 1) := by decide +kernel
theorem dX8_countWays_40 : decode cX8_countWays 40 = .ok (.getfield 120, 3) := by decide +kernel
theorem dX8_countWays_43 : decode cX8_countWays 43 = .ok (.iconst 1, 1) := by decide +kernel
theorem dX8_countWays_44 : decode cX8_countWays 44 = .ok (.isub, 1) := by decide +kernel
theorem dX8_countWays_45 : decode cX8_countWays 45 = .ok (.istore_n 1, 1) := by decide +kernel
theorem dX8_countWays_46 : decode cX8_countWays 46 = .ok (.iload_n 1, 1) := by decide +kernel
theorem dX8_countWays_47 : decode cX8_countWays 47 = .ok (.ifCond .lt 150, 3) := by decide +kernel
theorem dX8_countWays_197 : decode cX8_countWays 197 = .ok (.aload_n 0, 1) := by decide +kernel
theorem dX8_countWays_198 : decode cX8_countWays 198 = .ok (.getfield 85, 3) := by decide +kernel
theorem dX8_countWays_201 : decode cX8_countWays 201 = .ok (.aload_n 0, 1) := by decide +kernel
theorem dX8_countWays_202 : decode cX8_countWays 202 = .ok (.invokevirtual 307, 3) := by decide +kernel
theorem dX8_countWays_205 : decode cX8_countWays 205 = .ok (.iaload, 1) := by decide +kernel
theorem dX8_countWays_206 : decode cX8_countWays 206 = .ok (.ireturn, 1) := by decide +kernel
theorem dX8_draw_0 : decode cX8_draw 0 = .ok (.aload_n 0, 1) := by decide +kernel
theorem dX8_draw_1 : decode cX8_draw 1 = .ok (.aload_n 0, 1) := by decide +kernel
theorem dX8_draw_2 : decode cX8_draw 2 = .ok (.getfield 408, 3) := by decide +kernel
theorem dX8_draw_5 : decode cX8_draw 5 = .ok (.ldc_w 411, 3) := by decide +kernel
theorem dX8_draw_8 : decode cX8_draw 8 = .ok (.imul, 1) := by decide +kernel
theorem dX8_draw_9 : decode cX8_draw 9 = .ok (.sipush 12345, 3) := by decide +kernel
theorem dX8_draw_12 : decode cX8_draw 12 = .ok (.iadd, 1) := by decide +kernel
theorem dX8_draw_13 : decode cX8_draw 13 = .ok (.putfield 408, 3) := by decide +kernel
theorem dX8_draw_16 : decode cX8_draw 16 = .ok (.aload_n 0, 1) := by decide +kernel
theorem dX8_draw_17 : decode cX8_draw 17 = .ok (.getfield 408, 3) := by decide +kernel
theorem dX8_draw_20 : decode cX8_draw 20 = .ok (.bipush 16, 2) := by decide +kernel
theorem dX8_draw_22 : decode cX8_draw 22 = .ok (.iushr, 1) := by decide +kernel
theorem dX8_draw_23 : decode cX8_draw 23 = .ok (.iload_n 1, 1) := by decide +kernel
theorem dX8_draw_24 : decode cX8_draw 24 = .ok (.irem, 1) := by decide +kernel
theorem dX8_draw_25 : decode cX8_draw 25 = .ok (.ireturn, 1) := by decide +kernel
theorem dX8_easiest_0 : decode cX8_easiest 0 = .ok (.aload_n 0, 1) := by decide +kernel
theorem dX8_easiest_1 : decode cX8_easiest 1 = .ok (.iconst 0, 1) := by decide +kernel
theorem dX8_easiest_2 : decode cX8_easiest 2 = .ok (.putfield 114, 3) := by decide +kernel
theorem dX8_easiest_5 : decode cX8_easiest 5 = .ok (.aload_n 0, 1) := by decide +kernel
theorem dX8_easiest_6 : decode cX8_easiest 6 = .ok (.iconst (-1), 1) := by decide +kernel
theorem dX8_easiest_7 : decode cX8_easiest 7 = .ok (.invokevirtual 338, 3) := by decide +kernel
theorem dX8_easiest_10 : decode cX8_easiest 10 = .ok (.istore_n 1, 1) := by decide +kernel
theorem dX8_easiest_11 : decode cX8_easiest 11 = .ok (.iload_n 1, 1) := by decide +kernel
theorem dX8_easiest_12 : decode cX8_easiest 12 = .ok (.ldc 88, 2) := by decide +kernel
theorem dX8_easiest_14 : decode cX8_easiest 14 = .ok (.if_icmp .ne 6, 3) := by decide +kernel
theorem dX8_easiest_17 : decode cX8_easiest 17 = .ok (.bipush (-2), 2) := by decide +kernel
theorem dX8_easiest_19 : decode cX8_easiest 19 = .ok (.ireturn, 1) := by decide +kernel
theorem dX8_easiestBut_0 : decode cX8_easiestBut 0 = .ok (.aload_n 0, 1) := by decide +kernel
theorem dX8_easiestBut_1 : decode cX8_easiestBut 1 = .ok (.iload_n 1, 1) := by decide +kernel
theorem dX8_easiestBut_2 : decode cX8_easiestBut 2 = .ok (.invokevirtual 335, 3) := by decide +kernel
theorem dX8_easiestBut_5 : decode cX8_easiestBut 5 = .ok (.aload_n 0, 1) := by decide +kernel
theorem dX8_easiestBut_6 : decode cX8_easiestBut 6 = .ok (.iconst 0, 1) := by decide +kernel
theorem dX8_easiestBut_7 : decode cX8_easiestBut 7 = .ok (.invokevirtual 329, 3) := by decide +kernel
theorem dX8_easiestBut_10 : decode cX8_easiestBut 10 = .ok (.ireturn, 1) := by decide +kernel
theorem dX8_end_0 : decode cX8_end 0 = .ok (.aload_n 0, 1) := by decide +kernel
theorem dX8_end_1 : decode cX8_end 1 = .ok (.iconst 0, 1) := by decide +kernel
theorem dX8_end_2 : decode cX8_end 2 = .ok (.putfield 114, 3) := by decide +kernel
theorem dX8_end_5 : decode cX8_end 5 = .ok (.iload_n 1, 1) := by decide +kernel
theorem dX8_end_6 : decode cX8_end 6 = .ok (.iconst 0, 1) := by decide +kernel
theorem dX8_end_7 : decode cX8_end 7 = .ok (.aload_n 0, 1) := by decide +kernel
theorem dX8_end_8 : decode cX8_end 8 = .ok (.getfield 131, 3) := by decide +kernel
theorem dX8_end_11 : decode cX8_end 11 = .ok (.invokestatic 123, 3) := by decide +kernel
theorem dX8_end_14 : decode cX8_end 14 = .ok (.ifCond .ne 5, 3) := by decide +kernel
theorem dX8_end_17 : decode cX8_end 17 = .ok (.iconst 0, 1) := by decide +kernel
theorem dX8_end_18 : decode cX8_end 18 = .ok (.ireturn, 1) := by decide +kernel
theorem dX8_end_19 : decode cX8_end 19 = .ok (.aload_n 0, 1) := by decide +kernel
theorem dX8_end_20 : decode cX8_end 20 = .ok (.iload_n 1, 1) := by decide +kernel
theorem dX8_end_21 : decode cX8_end 21 = .ok (.putfield 131, 3) := by decide +kernel
theorem dX8_end_24 : decode cX8_end 24 = .ok (.iconst 1, 1) := by decide +kernel
theorem dX8_end_25 : decode cX8_end 25 = .ok (.ireturn, 1) := by decide +kernel
theorem dX8_fairest_0 : decode cX8_fairest 0 = .ok (.aload_n 0, 1) := by decide +kernel
theorem dX8_fairest_1 : decode cX8_fairest 1 = .ok (.iconst 0, 1) := by decide +kernel
theorem dX8_fairest_2 : decode cX8_fairest 2 = .ok (.putfield 114, 3) := by decide +kernel
theorem dX8_fairest_5 : decode cX8_fairest 5 = .ok (.aload_n 0, 1) := by decide +kernel
theorem dX8_fairest_6 : decode cX8_fairest 6 = .ok (.iconst (-1), 1) := by decide +kernel
theorem dX8_fairest_7 : decode cX8_fairest 7 = .ok (.invokevirtual 335, 3) := by decide +kernel
theorem dX8_fairest_10 : decode cX8_fairest 10 = .ok (.iconst (-1), 1) := by decide +kernel
theorem dX8_fairest_11 : decode cX8_fairest 11 = .ok (.istore_n 1, 1) := by decide +kernel
theorem dX8_fairest_12 : decode cX8_fairest 12 = .ok (.sipush 3997, 3) := by decide +kernel
theorem dX8_fairest_15 : decode cX8_fairest 15 = .ok (.istore_n 2, 1) := by decide +kernel
theorem dX8_fairest_16 : decode cX8_fairest 16 = .ok (.iload_n 2, 1) := by decide +kernel
theorem dX8_fairest_17 : decode cX8_fairest 17 = .ok (.iload_n 1, 1) := by decide +kernel
theorem dX8_fairest_18 : decode cX8_fairest 18 = .ok (.isub, 1) := by decide +kernel
theorem dX8_fairest_19 : decode cX8_fairest 19 = .ok (.iconst 1, 1) := by decide +kernel
theorem dX8_fairest_20 : decode cX8_fairest 20 = .ok (.if_icmp .le 38, 3) := by decide +kernel
theorem dX8_fairest_23 : decode cX8_fairest 23 = .ok (.aload_n 0, 1) := by decide +kernel
theorem dX8_fairest_24 : decode cX8_fairest 24 = .ok (.iload_n 1, 1) := by decide +kernel
theorem dX8_fairest_25 : decode cX8_fairest 25 = .ok (.iload_n 2, 1) := by decide +kernel
theorem dX8_fairest_26 : decode cX8_fairest 26 = .ok (.iadd, 1) := by decide +kernel
theorem dX8_fairest_27 : decode cX8_fairest 27 = .ok (.iconst 2, 1) := by decide +kernel
theorem dX8_fairest_28 : decode cX8_fairest 28 = .ok (.idiv, 1) := by decide +kernel
theorem dX8_fairest_29 : decode cX8_fairest 29 = .ok (.putfield 89, 3) := by decide +kernel
theorem dX8_fairest_32 : decode cX8_fairest 32 = .ok (.aload_n 0, 1) := by decide +kernel
theorem dX8_fairest_33 : decode cX8_fairest 33 = .ok (.iconst 0, 1) := by decide +kernel
theorem dX8_fairest_34 : decode cX8_fairest 34 = .ok (.invokevirtual 329, 3) := by decide +kernel
theorem dX8_fairest_37 : decode cX8_fairest 37 = .ok (.ldc 88, 2) := by decide +kernel
theorem dX8_fairest_39 : decode cX8_fairest 39 = .ok (.if_icmp .ge 11, 3) := by decide +kernel
theorem dX8_fairest_50 : decode cX8_fairest 50 = .ok (.aload_n 0, 1) := by decide +kernel
theorem dX8_fairest_51 : decode cX8_fairest 51 = .ok (.getfield 89, 3) := by decide +kernel
theorem dX8_fairest_54 : decode cX8_fairest 54 = .ok (.istore_n 1, 1) := by decide +kernel
theorem dX8_fairest_55 : decode cX8_fairest 55 = .ok (.goto (-39), 3) := by decide +kernel
theorem dX8_fairest_58 : decode cX8_fairest 58 = .ok (.aload_n 0, 1) := by decide +kernel
theorem dX8_fairest_59 : decode cX8_fairest 59 = .ok (.iload_n 2, 1) := by decide +kernel
theorem dX8_fairest_60 : decode cX8_fairest 60 = .ok (.putfield 89, 3) := by decide +kernel
theorem dX8_fairest_63 : decode cX8_fairest 63 = .ok (.aload_n 0, 1) := by decide +kernel
theorem dX8_fairest_64 : decode cX8_fairest 64 = .ok (.iconst 0, 1) := by decide +kernel
theorem dX8_fairest_65 : decode cX8_fairest 65 = .ok (.invokevirtual 329, 3) := by decide +kernel
theorem dX8_fairest_68 : decode cX8_fairest 68 = .ok (.istore_n 3, 1) := by decide +kernel
theorem dX8_fairest_69 : decode cX8_fairest 69 = .ok (.aload_n 0, 1) := by decide +kernel
theorem dX8_fairest_70 : decode cX8_fairest 70 = .ok (.ldc 88, 2) := by decide +kernel
theorem dX8_fairest_72 : decode cX8_fairest 72 = .ok (.putfield 89, 3) := by decide +kernel
theorem dX8_fairest_75 : decode cX8_fairest 75 = .ok (.iload_n 3, 1) := by decide +kernel
theorem dX8_fairest_76 : decode cX8_fairest 76 = .ok (.ldc 88, 2) := by decide +kernel
theorem dX8_fairest_78 : decode cX8_fairest 78 = .ok (.if_icmp .ne 6, 3) := by decide +kernel
theorem dX8_fairest_81 : decode cX8_fairest 81 = .ok (.bipush (-2), 2) := by decide +kernel
theorem dX8_fairest_83 : decode cX8_fairest 83 = .ok (.ireturn, 1) := by decide +kernel
theorem dX8_fault_0 : decode cX8_fault 0 = .ok (.aload_n 0, 1) := by decide +kernel
theorem dX8_fault_1 : decode cX8_fault 1 = .ok (.invokevirtual 153, 3) := by decide +kernel
theorem dX8_fault_4 : decode cX8_fault 4 = .ok (.ifCond .eq 8, 3) := by decide +kernel
theorem dX8_fault_7 : decode cX8_fault 7 = .ok (.aload_n 0, 1) := by decide +kernel
theorem dX8_fault_8 : decode cX8_fault 8 = .ok (.iload_n 1, 1) := by decide +kernel
theorem dX8_fault_9 : decode cX8_fault 9 = .ok (.putfield 146, 3) := by decide +kernel
theorem dX8_fault_12 : decode cX8_fault 12 = .ok (.return_, 1) := by decide +kernel
theorem dX8_fewest_0 : decode cX8_fewest 0 = .ok (.aload_n 0, 1) := by decide +kernel
theorem dX8_fewest_1 : decode cX8_fewest 1 = .ok (.iconst 0, 1) := by decide +kernel
theorem dX8_fewest_2 : decode cX8_fewest 2 = .ok (.putfield 114, 3) := by decide +kernel
theorem dX8_fewest_5 : decode cX8_fewest 5 = .ok (.aload_n 0, 1) := by decide +kernel
theorem dX8_fewest_6 : decode cX8_fewest 6 = .ok (.invokevirtual 347, 3) := by decide +kernel
theorem dX8_fewest_9 : decode cX8_fewest 9 = .ok (.iconst (-1), 1) := by decide +kernel
theorem dX8_fewest_10 : decode cX8_fewest 10 = .ok (.istore_n 1, 1) := by decide +kernel
theorem dX8_fewest_11 : decode cX8_fewest 11 = .ok (.iconst 0, 1) := by decide +kernel
theorem dX8_fewest_12 : decode cX8_fewest 12 = .ok (.istore_n 2, 1) := by decide +kernel
theorem dX8_fewest_13 : decode cX8_fewest 13 = .ok (.iload_n 2, 1) := by decide +kernel
theorem dX8_fewest_14 : decode cX8_fewest 14 = .ok (.iconst 1, 1) := by decide +kernel
theorem dX8_fewest_15 : decode cX8_fewest 15 = .ok (.aload_n 0, 1) := by decide +kernel
theorem dX8_fewest_16 : decode cX8_fewest 16 = .ok (.getfield 120, 3) := by decide +kernel
theorem dX8_fewest_19 : decode cX8_fewest 19 = .ok (.ishl, 1) := by decide +kernel
theorem dX8_fewest_20 : decode cX8_fewest 20 = .ok (.if_icmp .ge 36, 3) := by decide +kernel
theorem dX8_fewest_23 : decode cX8_fewest 23 = .ok (.aload_n 0, 1) := by decide +kernel
theorem dX8_fewest_24 : decode cX8_fewest 24 = .ok (.getfield 95, 3) := by decide +kernel
theorem dX8_fewest_27 : decode cX8_fewest 27 = .ok (.iload_n 2, 1) := by decide +kernel
theorem dX8_fewest_28 : decode cX8_fewest 28 = .ok (.baload, 1) := by decide +kernel
theorem dX8_fewest_29 : decode cX8_fewest 29 = .ok (.ifCond .eq 21, 3) := by decide +kernel
theorem dX8_fewest_50 : decode cX8_fewest 50 = .ok (.iinc 2 1, 3) := by decide +kernel
theorem dX8_fewest_53 : decode cX8_fewest 53 = .ok (.goto (-40), 3) := by decide +kernel
theorem dX8_fewest_56 : decode cX8_fewest 56 = .ok (.iload_n 1, 1) := by decide +kernel
theorem dX8_fewest_57 : decode cX8_fewest 57 = .ok (.iconst (-1), 1) := by decide +kernel
theorem dX8_fewest_58 : decode cX8_fewest 58 = .ok (.if_icmp .ne 6, 3) := by decide +kernel
theorem dX8_fewest_61 : decode cX8_fewest 61 = .ok (.bipush (-2), 2) := by decide +kernel
theorem dX8_fewest_63 : decode cX8_fewest 63 = .ok (.ireturn, 1) := by decide +kernel
theorem dX8_fine_0 : decode cX8_fine 0 = .ok (.aload_n 0, 1) := by decide +kernel
theorem dX8_fine_1 : decode cX8_fine 1 = .ok (.getfield 146, 3) := by decide +kernel
theorem dX8_fine_4 : decode cX8_fine 4 = .ok (.iconst (-1), 1) := by decide +kernel
theorem dX8_fine_5 : decode cX8_fine 5 = .ok (.if_icmp .ne 7, 3) := by decide +kernel
theorem dX8_fine_8 : decode cX8_fine 8 = .ok (.iconst 1, 1) := by decide +kernel
theorem dX8_fine_9 : decode cX8_fine 9 = .ok (.goto 4, 3) := by decide +kernel
theorem dX8_fine_12 : decode cX8_fine 12 = .ok (.iconst 0, 1) := by decide +kernel
theorem dX8_fine_13 : decode cX8_fine 13 = .ok (.ireturn, 1) := by decide +kernel
theorem dX8_first_0 : decode cX8_first 0 = .ok (.aload_n 0, 1) := by decide +kernel
theorem dX8_first_1 : decode cX8_first 1 = .ok (.iconst 0, 1) := by decide +kernel
theorem dX8_first_2 : decode cX8_first 2 = .ok (.putfield 114, 3) := by decide +kernel
theorem dX8_first_5 : decode cX8_first 5 = .ok (.iload_n 1, 1) := by decide +kernel
theorem dX8_first_6 : decode cX8_first 6 = .ok (.iconst 1, 1) := by decide +kernel
theorem dX8_first_7 : decode cX8_first 7 = .ok (.bipush 60, 2) := by decide +kernel
theorem dX8_first_9 : decode cX8_first 9 = .ok (.invokestatic 123, 3) := by decide +kernel
theorem dX8_first_12 : decode cX8_first 12 = .ok (.ifCond .ne 5, 3) := by decide +kernel
theorem dX8_first_15 : decode cX8_first 15 = .ok (.iconst (-1), 1) := by decide +kernel
theorem dX8_first_16 : decode cX8_first 16 = .ok (.ireturn, 1) := by decide +kernel
theorem dX8_first_17 : decode cX8_first 17 = .ok (.aload_n 0, 1) := by decide +kernel
theorem dX8_first_18 : decode cX8_first 18 = .ok (.getfield 9, 3) := by decide +kernel
theorem dX8_first_21 : decode cX8_first 21 = .ok (.aload_n 0, 1) := by decide +kernel
theorem dX8_first_22 : decode cX8_first 22 = .ok (.getfield 55, 3) := by decide +kernel
theorem dX8_first_25 : decode cX8_first 25 = .ok (.iconst 0, 1) := by decide +kernel
theorem dX8_first_26 : decode cX8_first 26 = .ok (.invokestatic 249, 3) := by decide +kernel
theorem dX8_first_29 : decode cX8_first 29 = .ok (.iconst 0, 1) := by decide +kernel
theorem dX8_first_30 : decode cX8_first 30 = .ok (.istore_n 2, 1) := by decide +kernel
theorem dX8_first_31 : decode cX8_first 31 = .ok (.iload_n 2, 1) := by decide +kernel
theorem dX8_first_32 : decode cX8_first 32 = .ok (.iload_n 1, 1) := by decide +kernel
theorem dX8_first_33 : decode cX8_first 33 = .ok (.if_icmp .ge 46, 3) := by decide +kernel
theorem dX8_first_36 : decode cX8_first 36 = .ok (.aload_n 0, 1) := by decide +kernel
theorem dX8_first_37 : decode cX8_first 37 = .ok (.aload_n 0, 1) := by decide +kernel
theorem dX8_first_38 : decode cX8_first 38 = .ok (.getfield 55, 3) := by decide +kernel
theorem dX8_first_41 : decode cX8_first 41 = .ok (.invokevirtual 277, 3) := by decide +kernel
theorem dX8_first_44 : decode cX8_first 44 = .ok (.aload_n 0, 1) := by decide +kernel
theorem dX8_first_45 : decode cX8_first 45 = .ok (.getfield 265, 3) := by decide +kernel
theorem dX8_first_48 : decode cX8_first 48 = .ok (.ifCond .ne 6, 3) := by decide +kernel
theorem dX8_first_54 : decode cX8_first 54 = .ok (.aload_n 0, 1) := by decide +kernel
theorem dX8_first_55 : decode cX8_first 55 = .ok (.iconst 0, 1) := by decide +kernel
theorem dX8_first_56 : decode cX8_first 56 = .ok (.putfield 117, 3) := by decide +kernel
theorem dX8_first_59 : decode cX8_first 59 = .ok (.aload_n 0, 1) := by decide +kernel
theorem dX8_first_60 : decode cX8_first 60 = .ok (.aload_n 0, 1) := by decide +kernel
theorem dX8_first_61 : decode cX8_first 61 = .ok (.getfield 265, 3) := by decide +kernel
theorem dX8_first_64 : decode cX8_first 64 = .ok (.invokestatic 304, 3) := by decide +kernel
theorem dX8_first_67 : decode cX8_first 67 = .ok (.i2l, 1) := by decide +kernel
theorem dX8_first_68 : decode cX8_first 68 = .ok (.invokevirtual 284, 3) := by decide +kernel
theorem dX8_first_71 : decode cX8_first 71 = .ok (.iload_n 2, 1) := by decide +kernel
theorem dX8_first_72 : decode cX8_first 72 = .ok (.ireturn, 1) := by decide +kernel
theorem dX8_firstGets_0 : decode cX8_firstGets 0 = .ok (.iload_n 0, 1) := by decide +kernel
