theorem dX8_firstGets_1 : decode cX8_firstGets 1 = .ok (.iload_n 1, 1) := by decide +kernel
theorem dX8_firstGets_2 : decode cX8_firstGets 2 = .ok (.if_icmp .lt 9, 3) := by decide +kernel
theorem dX8_firstGets_5 : decode cX8_firstGets 5 = .ok (.iload_n 2, 1) := by decide +kernel
theorem dX8_firstGets_6 : decode cX8_firstGets 6 = .ok (.iload_n 1, 1) := by decide +kernel
theorem dX8_firstGets_7 : decode cX8_firstGets 7 = .ok (.isub, 1) := by decide +kernel
theorem dX8_firstGets_8 : decode cX8_firstGets 8 = .ok (.goto 4, 3) := by decide +kernel
theorem dX8_firstGets_11 : decode cX8_firstGets 11 = .ok (.iconst 0, 1) := by decide +kernel
theorem dX8_firstGets_12 : decode cX8_firstGets 12 = .ok (.ireturn, 1) := by decide +kernel
theorem dX8_fits_0 : decode cX8_fits 0 = .ok (.aload_n 0, 1) := by decide +kernel
theorem dX8_fits_1 : decode cX8_fits 1 = .ok (.iconst 0, 1) := by decide +kernel
theorem dX8_fits_2 : decode cX8_fits 2 = .ok (.putfield 114, 3) := by decide +kernel
theorem dX8_fits_5 : decode cX8_fits 5 = .ok (.aload_n 0, 1) := by decide +kernel
theorem dX8_fits_6 : decode cX8_fits 6 = .ok (.iconst (-1), 1) := by decide +kernel
theorem dX8_fits_7 : decode cX8_fits 7 = .ok (.iconst (-1), 1) := by decide +kernel
theorem dX8_fits_8 : decode cX8_fits 8 = .ok (.invokevirtual 371, 3) := by decide +kernel
theorem dX8_fits_11 : decode cX8_fits 11 = .ok (.istore_n 1, 1) := by decide +kernel
theorem dX8_fits_12 : decode cX8_fits 12 = .ok (.aload_n 0, 1) := by decide +kernel
theorem dX8_fits_13 : decode cX8_fits 13 = .ok (.iconst 0, 1) := by decide +kernel
theorem dX8_fits_14 : decode cX8_fits 14 = .ok (.putfield 117, 3) := by decide +kernel
theorem dX8_fits_17 : decode cX8_fits 17 = .ok (.iload_n 1, 1) := by decide +kernel
theorem dX8_fits_18 : decode cX8_fits 18 = .ok (.ifCond .ne 7, 3) := by decide +kernel
theorem dX8_fits_21 : decode cX8_fits 21 = .ok (.iconst 0, 1) := by decide +kernel
theorem dX8_fits_22 : decode cX8_fits 22 = .ok (.goto 7, 3) := by decide +kernel
theorem dX8_fits_29 : decode cX8_fits 29 = .ok (.ireturn, 1) := by decide +kernel
theorem dX8_fitting_0 : decode cX8_fitting 0 = .ok (.aload_n 0, 1) := by decide +kernel
theorem dX8_fitting_1 : decode cX8_fitting 1 = .ok (.invokevirtual 368, 3) := by decide +kernel
theorem dX8_fitting_4 : decode cX8_fitting 4 = .ok (.iload_n 1, 1) := by decide +kernel
theorem dX8_fitting_5 : decode cX8_fitting 5 = .ok (.iconst (-1), 1) := by decide +kernel
theorem dX8_fitting_6 : decode cX8_fitting 6 = .ok (.if_icmp .eq 9, 3) := by decide +kernel
theorem dX8_fitting_15 : decode cX8_fitting 15 = .ok (.iconst 0, 1) := by decide +kernel
theorem dX8_fitting_16 : decode cX8_fitting 16 = .ok (.istore_n 3, 1) := by decide +kernel
theorem dX8_fitting_17 : decode cX8_fitting 17 = .ok (.iload_n 3, 1) := by decide +kernel
theorem dX8_fitting_18 : decode cX8_fitting 18 = .ok (.aload_n 0, 1) := by decide +kernel
theorem dX8_fitting_19 : decode cX8_fitting 19 = .ok (.getfield 120, 3) := by decide +kernel
theorem dX8_fitting_22 : decode cX8_fitting 22 = .ok (.if_icmp .ge 19, 3) := by decide +kernel
theorem dX8_fitting_41 : decode cX8_fitting 41 = .ok (.aload_n 0, 1) := by decide +kernel
theorem dX8_fitting_42 : decode cX8_fitting 42 = .ok (.invokevirtual 350, 3) := by decide +kernel
theorem dX8_fitting_45 : decode cX8_fitting 45 = .ok (.ireturn, 1) := by decide +kernel
theorem dX8_forget_0 : decode cX8_forget 0 = .ok (.aload_n 0, 1) := by decide +kernel
theorem dX8_forget_1 : decode cX8_forget 1 = .ok (.iconst 0, 1) := by decide +kernel
theorem dX8_forget_2 : decode cX8_forget 2 = .ok (.putfield 114, 3) := by decide +kernel
theorem dX8_forget_5 : decode cX8_forget 5 = .ok (.aload_n 0, 1) := by decide +kernel
theorem dX8_forget_6 : decode cX8_forget 6 = .ok (.getfield 362, 3) := by decide +kernel
theorem dX8_forget_9 : decode cX8_forget 9 = .ok (.istore_n 1, 1) := by decide +kernel
theorem dX8_forget_10 : decode cX8_forget 10 = .ok (.aload_n 0, 1) := by decide +kernel
theorem dX8_forget_11 : decode cX8_forget 11 = .ok (.iconst 0, 1) := by decide +kernel
theorem dX8_forget_12 : decode cX8_forget 12 = .ok (.putfield 362, 3) := by decide +kernel
theorem dX8_forget_15 : decode cX8_forget 15 = .ok (.iload_n 1, 1) := by decide +kernel
theorem dX8_forget_16 : decode cX8_forget 16 = .ok (.ireturn, 1) := by decide +kernel
theorem dX8_found_0 : decode cX8_found 0 = .ok (.aload_n 0, 1) := by decide +kernel
theorem dX8_found_1 : decode cX8_found 1 = .ok (.iconst 0, 1) := by decide +kernel
theorem dX8_found_2 : decode cX8_found 2 = .ok (.putfield 114, 3) := by decide +kernel
theorem dX8_found_5 : decode cX8_found 5 = .ok (.iload_n 1, 1) := by decide +kernel
theorem dX8_found_6 : decode cX8_found 6 = .ok (.invokestatic 242, 3) := by decide +kernel
theorem dX8_found_9 : decode cX8_found 9 = .ok (.ifCond .eq 29, 3) := by decide +kernel
theorem dX8_found_12 : decode cX8_found 12 = .ok (.aload_n 0, 1) := by decide +kernel
theorem dX8_found_13 : decode cX8_found 13 = .ok (.iload_n 2, 1) := by decide +kernel
theorem dX8_found_14 : decode cX8_found 14 = .ok (.invokevirtual 127, 3) := by decide +kernel
theorem dX8_found_17 : decode cX8_found 17 = .ok (.ifCond .eq 21, 3) := by decide +kernel
theorem dX8_found_38 : decode cX8_found 38 = .ok (.iconst (-1), 1) := by decide +kernel
theorem dX8_found_39 : decode cX8_found 39 = .ok (.ireturn, 1) := by decide +kernel
theorem dX8_gaps_0 : decode cX8_gaps 0 = .ok (.aload_n 0, 1) := by decide +kernel
theorem dX8_gaps_1 : decode cX8_gaps 1 = .ok (.iconst 0, 1) := by decide +kernel
theorem dX8_gaps_2 : decode cX8_gaps 2 = .ok (.putfield 114, 3) := by decide +kernel
theorem dX8_gaps_5 : decode cX8_gaps 5 = .ok (.aload_n 0, 1) := by decide +kernel
theorem dX8_gaps_6 : decode cX8_gaps 6 = .ok (.getfield 9, 3) := by decide +kernel
theorem dX8_gaps_9 : decode cX8_gaps 9 = .ok (.aload_n 0, 1) := by decide +kernel
theorem dX8_gaps_10 : decode cX8_gaps 10 = .ok (.getfield 55, 3) := by decide +kernel
theorem dX8_gaps_13 : decode cX8_gaps 13 = .ok (.iconst 0, 1) := by decide +kernel
theorem dX8_gaps_14 : decode cX8_gaps 14 = .ok (.invokestatic 249, 3) := by decide +kernel
theorem dX8_gaps_17 : decode cX8_gaps 17 = .ok (.aload_n 0, 1) := by decide +kernel
theorem dX8_gaps_18 : decode cX8_gaps 18 = .ok (.aload_n 0, 1) := by decide +kernel
theorem dX8_gaps_19 : decode cX8_gaps 19 = .ok (.getfield 55, 3) := by decide +kernel
theorem dX8_gaps_22 : decode cX8_gaps 22 = .ok (.invokevirtual 277, 3) := by decide +kernel
theorem dX8_gaps_25 : decode cX8_gaps 25 = .ok (.aload_n 0, 1) := by decide +kernel
theorem dX8_gaps_26 : decode cX8_gaps 26 = .ok (.iconst 0, 1) := by decide +kernel
theorem dX8_gaps_27 : decode cX8_gaps 27 = .ok (.putfield 117, 3) := by decide +kernel
theorem dX8_gaps_30 : decode cX8_gaps 30 = .ok (.aload_n 0, 1) := by decide +kernel
theorem dX8_gaps_31 : decode cX8_gaps 31 = .ok (.aload_n 0, 1) := by decide +kernel
theorem dX8_gaps_32 : decode cX8_gaps 32 = .ok (.getfield 265, 3) := by decide +kernel
theorem dX8_gaps_35 : decode cX8_gaps 35 = .ok (.invokestatic 221, 3) := by decide +kernel
theorem dX8_gaps_38 : decode cX8_gaps 38 = .ok (.i2l, 1) := by decide +kernel
theorem dX8_gaps_39 : decode cX8_gaps 39 = .ok (.invokevirtual 284, 3) := by decide +kernel
theorem dX8_gaps_42 : decode cX8_gaps 42 = .ok (.aload_n 0, 1) := by decide +kernel
theorem dX8_gaps_43 : decode cX8_gaps 43 = .ok (.aload_n 0, 1) := by decide +kernel
theorem dX8_gaps_44 : decode cX8_gaps 44 = .ok (.getfield 268, 3) := by decide +kernel
theorem dX8_gaps_47 : decode cX8_gaps 47 = .ok (.i2l, 1) := by decide +kernel
theorem dX8_gaps_48 : decode cX8_gaps 48 = .ok (.invokevirtual 284, 3) := by decide +kernel
theorem dX8_gaps_51 : decode cX8_gaps 51 = .ok (.aload_n 0, 1) := by decide +kernel
theorem dX8_gaps_52 : decode cX8_gaps 52 = .ok (.getfield 265, 3) := by decide +kernel
theorem dX8_gaps_55 : decode cX8_gaps 55 = .ok (.ireturn, 1) := by decide +kernel
theorem dX8_give_0 : decode cX8_give 0 = .ok (.aload_n 0, 1) := by decide +kernel
theorem dX8_give_1 : decode cX8_give 1 = .ok (.iconst 0, 1) := by decide +kernel
theorem dX8_give_2 : decode cX8_give 2 = .ok (.putfield 114, 3) := by decide +kernel
theorem dX8_give_5 : decode cX8_give 5 = .ok (.aload_n 0, 1) := by decide +kernel
theorem dX8_give_6 : decode cX8_give 6 = .ok (.iload_n 1, 1) := by decide +kernel
theorem dX8_give_7 : decode cX8_give 7 = .ok (.iload_n 2, 1) := by decide +kernel
theorem dX8_give_8 : decode cX8_give 8 = .ok (.invokevirtual 257, 3) := by decide +kernel
theorem dX8_give_11 : decode cX8_give 11 = .ok (.ifCond .ne 6, 3) := by decide +kernel
theorem dX8_give_14 : decode cX8_give 14 = .ok (.bipush (-2), 2) := by decide +kernel
theorem dX8_give_16 : decode cX8_give 16 = .ok (.ireturn, 1) := by decide +kernel
theorem dX8_give_17 : decode cX8_give 17 = .ok (.aload_n 0, 1) := by decide +kernel
theorem dX8_give_18 : decode cX8_give 18 = .ok (.aload_n 0, 1) := by decide +kernel
theorem dX8_give_19 : decode cX8_give 19 = .ok (.getfield 9, 3) := by decide +kernel
theorem dX8_give_22 : decode cX8_give 22 = .ok (.invokevirtual 253, 3) := by decide +kernel
theorem dX8_give_25 : decode cX8_give 25 = .ok (.aload_n 0, 1) := by decide +kernel
theorem dX8_give_26 : decode cX8_give 26 = .ok (.getfield 9, 3) := by decide +kernel
theorem dX8_give_29 : decode cX8_give 29 = .ok (.iload_n 1, 1) := by decide +kernel
theorem dX8_give_30 : decode cX8_give 30 = .ok (.iaload, 1) := by decide +kernel
theorem dX8_give_31 : decode cX8_give 31 = .ok (.istore_n 3, 1) := by decide +kernel
theorem dX8_give_32 : decode cX8_give 32 = .ok (.aload_n 0, 1) := by decide +kernel
theorem dX8_give_33 : decode cX8_give 33 = .ok (.getfield 9, 3) := by decide +kernel
theorem dX8_give_36 : decode cX8_give 36 = .ok (.iload_n 1, 1) := by decide +kernel
theorem dX8_give_37 : decode cX8_give 37 = .ok (.iload_n 2, 1) := by decide +kernel
theorem dX8_give_38 : decode cX8_give 38 = .ok (.iastore, 1) := by decide +kernel
theorem dX8_give_39 : decode cX8_give 39 = .ok (.iload_n 3, 1) := by decide +kernel
theorem dX8_give_40 : decode cX8_give 40 = .ok (.ireturn, 1) := by decide +kernel
theorem dX8_goNight_0 : decode cX8_goNight 0 = .ok (.aload_n 0, 1) := by decide +kernel
theorem dX8_goNight_1 : decode cX8_goNight 1 = .ok (.iconst 0, 1) := by decide +kernel
theorem dX8_goNight_2 : decode cX8_goNight 2 = .ok (.putfield 265, 3) := by decide +kernel
theorem dX8_goNight_5 : decode cX8_goNight 5 = .ok (.aload_n 0, 1) := by decide +kernel
theorem dX8_goNight_6 : decode cX8_goNight 6 = .ok (.iconst 0, 1) := by decide +kernel
theorem dX8_goNight_7 : decode cX8_goNight 7 = .ok (.putfield 268, 3) := by decide +kernel
theorem dX8_goNight_10 : decode cX8_goNight 10 = .ok (.iconst 0, 1) := by decide +kernel
theorem dX8_goNight_11 : decode cX8_goNight 11 = .ok (.istore_n 2, 1) := by decide +kernel
theorem dX8_goNight_12 : decode cX8_goNight 12 = .ok (.iload_n 2, 1) := by decide +kernel
theorem dX8_goNight_13 : decode cX8_goNight 13 = .ok (.bipush 8, 2) := by decide +kernel
theorem dX8_goNight_15 : decode cX8_goNight 15 = .ok (.if_icmp .ge 23, 3) := by decide +kernel
theorem dX8_goNight_18 : decode cX8_goNight 18 = .ok (.aload_n 0, 1) := by decide +kernel
theorem dX8_goNight_19 : decode cX8_goNight 19 = .ok (.getfield 58, 3) := by decide +kernel
theorem dX8_goNight_22 : decode cX8_goNight 22 = .ok (.iload_n 2, 1) := by decide +kernel
theorem dX8_goNight_23 : decode cX8_goNight 23 = .ok (.iconst 0, 1) := by decide +kernel
theorem dX8_goNight_24 : decode cX8_goNight 24 = .ok (.iastore, 1) := by decide +kernel
theorem dX8_goNight_25 : decode cX8_goNight 25 = .ok (.aload_n 0, 1) := by decide +kernel
theorem dX8_goNight_26 : decode cX8_goNight 26 = .ok (.getfield 61, 3) := by decide +kernel
theorem dX8_goNight_29 : decode cX8_goNight 29 = .ok (.iload_n 2, 1) := by decide +kernel
theorem dX8_goNight_30 : decode cX8_goNight 30 = .ok (.iconst 0, 1) := by decide +kernel
theorem dX8_goNight_31 : decode cX8_goNight 31 = .ok (.iastore, 1) := by decide +kernel
theorem dX8_goNight_32 : decode cX8_goNight 32 = .ok (.iinc 2 1, 3) := by decide +kernel
theorem dX8_goNight_35 : decode cX8_goNight 35 = .ok (.goto (-23), 3) := by decide +kernel
theorem dX8_goNight_38 : decode cX8_goNight 38 = .ok (.iconst (-1), 1) := by decide +kernel
theorem dX8_goNight_39 : decode cX8_goNight 39 = .ok (.istore_n 2, 1) := by decide +kernel
theorem dX8_goNight_40 : decode cX8_goNight 40 = .ok (.iconst 0, 1) := by decide +kernel
theorem dX8_goNight_41 : decode cX8_goNight 41 = .ok (.istore_n 3, 1) := by decide +kernel
theorem dX8_goNight_42 : decode cX8_goNight 42 = .ok (.iload_n 3, 1) := by decide +kernel
theorem dX8_goNight_43 : decode cX8_goNight 43 = .ok (.aload_n 0, 1) := by decide +kernel
theorem dX8_goNight_44 : decode cX8_goNight 44 = .ok (.getfield 13, 3) := by decide +kernel
theorem dX8_goNight_47 : decode cX8_goNight 47 = .ok (.if_icmp .ge 188, 3) := by decide +kernel
theorem dX8_goNight_50 : decode cX8_goNight 50 = .ok (.aload_n 1, 1) := by decide +kernel
theorem dX8_goNight_51 : decode cX8_goNight 51 = .ok (.iload_n 3, 1) := by decide +kernel
theorem dX8_goNight_52 : decode cX8_goNight 52 = .ok (.iaload, 1) := by decide +kernel
theorem dX8_goNight_53 : decode cX8_goNight 53 = .ok (.istore 4, 2) := by decide +kernel
theorem dX8_goNight_55 : decode cX8_goNight 55 = .ok (.iload 4, 2) := by decide +kernel
theorem dX8_goNight_57 : decode cX8_goNight 57 = .ok (.iconst (-1), 1) := by decide +kernel
theorem dX8_goNight_58 : decode cX8_goNight 58 = .ok (.if_icmp .eq 48, 3) := by decide +kernel
theorem dX8_goNight_106 : decode cX8_goNight 106 = .ok (.iconst 0, 1) := by decide +kernel
theorem dX8_goNight_107 : decode cX8_goNight 107 = .ok (.istore 5, 2) := by decide +kernel
theorem dX8_goNight_109 : decode cX8_goNight 109 = .ok (.iload 5, 2) := by decide +kernel
theorem dX8_goNight_111 : decode cX8_goNight 111 = .ok (.ifCond .eq 94, 3) := by decide +kernel
theorem dX8_goNight_205 : decode cX8_goNight 205 = .ok (.aload_n 0, 1) := by decide +kernel
theorem dX8_goNight_206 : decode cX8_goNight 206 = .ok (.dup, 1) := by decide +kernel
theorem dX8_goNight_207 : decode cX8_goNight 207 = .ok (.getfield 265, 3) := by decide +kernel
theorem dX8_goNight_210 : decode cX8_goNight 210 = .ok (.iconst 1, 1) := by decide +kernel
theorem dX8_goNight_211 : decode cX8_goNight 211 = .ok (.iload_n 3, 1) := by decide +kernel
theorem dX8_goNight_212 : decode cX8_goNight 212 = .ok (.ishl, 1) := by decide +kernel
theorem dX8_goNight_213 : decode cX8_goNight 213 = .ok (.ior, 1) := by decide +kernel
theorem dX8_goNight_214 : decode cX8_goNight 214 = .ok (.putfield 265, 3) := by decide +kernel
theorem dX8_goNight_217 : decode cX8_goNight 217 = .ok (.iload 5, 2) := by decide +kernel
theorem dX8_goNight_219 : decode cX8_goNight 219 = .ok (.ifCond .eq 8, 3) := by decide +kernel
theorem dX8_goNight_227 : decode cX8_goNight 227 = .ok (.iconst (-1), 1) := by decide +kernel
theorem dX8_goNight_228 : decode cX8_goNight 228 = .ok (.istore_n 2, 1) := by decide +kernel
theorem dX8_goNight_229 : decode cX8_goNight 229 = .ok (.iinc 3 1, 3) := by decide +kernel
theorem dX8_goNight_232 : decode cX8_goNight 232 = .ok (.goto (-190), 3) := by decide +kernel
theorem dX8_goNight_235 : decode cX8_goNight 235 = .ok (.iconst 0, 1) := by decide +kernel
theorem dX8_goNight_236 : decode cX8_goNight 236 = .ok (.istore_n 3, 1) := by decide +kernel
theorem dX8_goNight_237 : decode cX8_goNight 237 = .ok (.iload_n 3, 1) := by decide +kernel
theorem dX8_goNight_238 : decode cX8_goNight 238 = .ok (.aload_n 0, 1) := by decide +kernel
theorem dX8_goNight_239 : decode cX8_goNight 239 = .ok (.getfield 120, 3) := by decide +kernel
theorem dX8_goNight_242 : decode cX8_goNight 242 = .ok (.if_icmp .ge 57, 3) := by decide +kernel
theorem dX8_goNight_299 : decode cX8_goNight 299 = .ok (.aload_n 1, 1) := by decide +kernel
theorem dX8_goNight_300 : decode cX8_goNight 300 = .ok (.bipush 25, 2) := by decide +kernel
theorem dX8_goNight_302 : decode cX8_goNight 302 = .ok (.dup2, 1) := by decide +kernel
theorem dX8_goNight_303 : decode cX8_goNight 303 = .ok (.iaload, 1) := by decide +kernel
theorem dX8_goNight_304 : decode cX8_goNight 304 = .ok (.aload_n 0, 1) := by decide +kernel
theorem dX8_goNight_305 : decode cX8_goNight 305 = .ok (.getfield 265, 3) := by decide +kernel
theorem dX8_goNight_308 : decode cX8_goNight 308 = .ok (.invokestatic 221, 3) := by decide +kernel
theorem dX8_goNight_311 : decode cX8_goNight 311 = .ok (.iadd, 1) := by decide +kernel
theorem dX8_goNight_312 : decode cX8_goNight 312 = .ok (.iastore, 1) := by decide +kernel
theorem dX8_goNight_313 : decode cX8_goNight 313 = .ok (.aload_n 1, 1) := by decide +kernel
theorem dX8_goNight_314 : decode cX8_goNight 314 = .ok (.bipush 26, 2) := by decide +kernel
theorem dX8_goNight_316 : decode cX8_goNight 316 = .ok (.dup2, 1) := by decide +kernel
theorem dX8_goNight_317 : decode cX8_goNight 317 = .ok (.iaload, 1) := by decide +kernel
theorem dX8_goNight_318 : decode cX8_goNight 318 = .ok (.aload_n 0, 1) := by decide +kernel
theorem dX8_goNight_319 : decode cX8_goNight 319 = .ok (.getfield 268, 3) := by decide +kernel
theorem dX8_goNight_322 : decode cX8_goNight 322 = .ok (.invokestatic 221, 3) := by decide +kernel
theorem dX8_goNight_325 : decode cX8_goNight 325 = .ok (.iadd, 1) := by decide +kernel
theorem dX8_goNight_326 : decode cX8_goNight 326 = .ok (.iastore, 1) := by decide +kernel
theorem dX8_goNight_327 : decode cX8_goNight 327 = .ok (.aload_n 1, 1) := by decide +kernel
theorem dX8_goNight_328 : decode cX8_goNight 328 = .ok (.bipush 24, 2) := by decide +kernel
theorem dX8_goNight_330 : decode cX8_goNight 330 = .ok (.dup2, 1) := by decide +kernel
theorem dX8_goNight_331 : decode cX8_goNight 331 = .ok (.iaload, 1) := by decide +kernel
theorem dX8_goNight_332 : decode cX8_goNight 332 = .ok (.iconst 1, 1) := by decide +kernel
theorem dX8_goNight_333 : decode cX8_goNight 333 = .ok (.iadd, 1) := by decide +kernel
theorem dX8_goNight_334 : decode cX8_goNight 334 = .ok (.iastore, 1) := by decide +kernel
theorem dX8_goNight_335 : decode cX8_goNight 335 = .ok (.return_, 1) := by decide +kernel
theorem dX8_goNights_0 : decode cX8_goNights 0 = .ok (.iconst 0, 1) := by decide +kernel
theorem dX8_goNights_1 : decode cX8_goNights 1 = .ok (.istore_n 3, 1) := by decide +kernel
theorem dX8_goNights_2 : decode cX8_goNights 2 = .ok (.iload_n 3, 1) := by decide +kernel
theorem dX8_goNights_3 : decode cX8_goNights 3 = .ok (.iload_n 2, 1) := by decide +kernel
theorem dX8_goNights_4 : decode cX8_goNights 4 = .ok (.if_icmp .ge 14, 3) := by decide +kernel
theorem dX8_goNights_7 : decode cX8_goNights 7 = .ok (.aload_n 0, 1) := by decide +kernel
theorem dX8_goNights_8 : decode cX8_goNights 8 = .ok (.aload_n 1, 1) := by decide +kernel
theorem dX8_goNights_9 : decode cX8_goNights 9 = .ok (.invokevirtual 277, 3) := by decide +kernel
theorem dX8_goNights_12 : decode cX8_goNights 12 = .ok (.iinc 3 1, 3) := by decide +kernel
theorem dX8_goNights_15 : decode cX8_goNights 15 = .ok (.goto (-13), 3) := by decide +kernel
theorem dX8_goNights_18 : decode cX8_goNights 18 = .ok (.return_, 1) := by decide +kernel
theorem dX8_hard_0 : decode cX8_hard 0 = .ok (.aload_n 0, 1) := by decide +kernel
theorem dX8_hard_1 : decode cX8_hard 1 = .ok (.iconst 0, 1) := by decide +kernel
theorem dX8_hard_2 : decode cX8_hard 2 = .ok (.putfield 114, 3) := by decide +kernel
theorem dX8_hard_5 : decode cX8_hard 5 = .ok (.aload_n 0, 1) := by decide +kernel
theorem dX8_hard_6 : decode cX8_hard 6 = .ok (.iload_n 1, 1) := by decide +kernel
theorem dX8_hard_7 : decode cX8_hard 7 = .ok (.invokevirtual 127, 3) := by decide +kernel
theorem dX8_hard_10 : decode cX8_hard 10 = .ok (.ifCond .eq 23, 3) := by decide +kernel
theorem dX8_hard_33 : decode cX8_hard 33 = .ok (.iconst (-1), 1) := by decide +kernel
theorem dX8_hard_34 : decode cX8_hard 34 = .ok (.ireturn, 1) := by decide +kernel
theorem dX8_hardOfRota_0 : decode cX8_hardOfRota 0 = .ok (.iconst 0, 1) := by decide +kernel
theorem dX8_hardOfRota_1 : decode cX8_hardOfRota 1 = .ok (.istore_n 1, 1) := by decide +kernel
theorem dX8_hardOfRota_2 : decode cX8_hardOfRota 2 = .ok (.iconst 0, 1) := by decide +kernel
theorem dX8_hardOfRota_3 : decode cX8_hardOfRota 3 = .ok (.istore_n 2, 1) := by decide +kernel
theorem dX8_hardOfRota_4 : decode cX8_hardOfRota 4 = .ok (.iload_n 2, 1) := by decide +kernel
theorem dX8_hardOfRota_5 : decode cX8_hardOfRota 5 = .ok (.aload_n 0, 1) := by decide +kernel
theorem dX8_hardOfRota_6 : decode cX8_hardOfRota 6 = .ok (.getfield 13, 3) := by decide +kernel
theorem dX8_hardOfRota_9 : decode cX8_hardOfRota 9 = .ok (.if_icmp .ge 41, 3) := by decide +kernel
theorem dX8_hardOfRota_12 : decode cX8_hardOfRota 12 = .ok (.iload_n 1, 1) := by decide +kernel
theorem dX8_hardOfRota_13 : decode cX8_hardOfRota 13 = .ok (.aload_n 0, 1) := by decide +kernel
theorem dX8_hardOfRota_14 : decode cX8_hardOfRota 14 = .ok (.getfield 9, 3) := by decide +kernel
theorem dX8_hardOfRota_17 : decode cX8_hardOfRota 17 = .ok (.iload_n 2, 1) := by decide +kernel
theorem dX8_hardOfRota_18 : decode cX8_hardOfRota 18 = .ok (.iaload, 1) := by decide +kernel
theorem dX8_hardOfRota_19 : decode cX8_hardOfRota 19 = .ok (.iconst (-1), 1) := by decide +kernel
theorem dX8_hardOfRota_20 : decode cX8_hardOfRota 20 = .ok (.if_icmp .ne 7, 3) := by decide +kernel
theorem dX8_hardOfRota_23 : decode cX8_hardOfRota 23 = .ok (.iconst 0, 1) := by decide +kernel
theorem dX8_hardOfRota_24 : decode cX8_hardOfRota 24 = .ok (.goto 18, 3) := by decide +kernel
theorem dX8_hardOfRota_42 : decode cX8_hardOfRota 42 = .ok (.iadd, 1) := by decide +kernel
theorem dX8_hardOfRota_43 : decode cX8_hardOfRota 43 = .ok (.istore_n 1, 1) := by decide +kernel
theorem dX8_hardOfRota_44 : decode cX8_hardOfRota 44 = .ok (.iinc 2 1, 3) := by decide +kernel
theorem dX8_hardOfRota_47 : decode cX8_hardOfRota 47 = .ok (.goto (-43), 3) := by decide +kernel
theorem dX8_hardOfRota_50 : decode cX8_hardOfRota 50 = .ok (.iload_n 1, 1) := by decide +kernel
theorem dX8_hardOfRota_51 : decode cX8_hardOfRota 51 = .ok (.ireturn, 1) := by decide +kernel
theorem dX8_held_0 : decode cX8_held 0 = .ok (.aload_n 0, 1) := by decide +kernel
theorem dX8_held_1 : decode cX8_held 1 = .ok (.iconst 0, 1) := by decide +kernel
theorem dX8_held_2 : decode cX8_held 2 = .ok (.putfield 114, 3) := by decide +kernel
theorem dX8_held_5 : decode cX8_held 5 = .ok (.iload_n 1, 1) := by decide +kernel
theorem dX8_held_6 : decode cX8_held 6 = .ok (.iconst 0, 1) := by decide +kernel
theorem dX8_held_7 : decode cX8_held 7 = .ok (.bipush 10, 2) := by decide +kernel
theorem dX8_held_9 : decode cX8_held 9 = .ok (.invokestatic 123, 3) := by decide +kernel
theorem dX8_held_12 : decode cX8_held 12 = .ok (.ifCond .ne 5, 3) := by decide +kernel
theorem dX8_held_15 : decode cX8_held 15 = .ok (.iconst (-1), 1) := by decide +kernel
theorem dX8_held_16 : decode cX8_held 16 = .ok (.ireturn, 1) := by decide +kernel
theorem dX8_held_17 : decode cX8_held 17 = .ok (.aload_n 0, 1) := by decide +kernel
theorem dX8_held_18 : decode cX8_held 18 = .ok (.invokevirtual 347, 3) := by decide +kernel
theorem dX8_held_21 : decode cX8_held 21 = .ok (.aload_n 0, 1) := by decide +kernel
theorem dX8_held_22 : decode cX8_held 22 = .ok (.aload_n 0, 1) := by decide +kernel
theorem dX8_held_23 : decode cX8_held 23 = .ok (.aload_n 0, 1) := by decide +kernel
theorem dX8_held_24 : decode cX8_held 24 = .ok (.invokevirtual 386, 3) := by decide +kernel
theorem dX8_held_27 : decode cX8_held 27 = .ok (.iload_n 1, 1) := by decide +kernel
theorem dX8_held_28 : decode cX8_held 28 = .ok (.invokevirtual 389, 3) := by decide +kernel
theorem dX8_held_31 : decode cX8_held 31 = .ok (.ldc2_w 393, 3) := by decide +kernel
theorem dX8_held_34 : decode cX8_held 34 = .ok (.aload_n 0, 1) := by decide +kernel
theorem dX8_held_35 : decode cX8_held 35 = .ok (.invokevirtual 386, 3) := by decide +kernel
theorem dX8_held_38 : decode cX8_held 38 = .ok (.invokestatic 221, 3) := by decide +kernel
theorem dX8_held_41 : decode cX8_held 41 = .ok (.invokestatic 382, 3) := by decide +kernel
theorem dX8_held_44 : decode cX8_held 44 = .ok (.invokevirtual 378, 3) := by decide +kernel
theorem dX8_held_47 : decode cX8_held 47 = .ok (.iconst 0, 1) := by decide +kernel
theorem dX8_held_48 : decode cX8_held 48 = .ok (.ireturn, 1) := by decide +kernel
theorem dX8_heldParts_0 : decode cX8_heldParts 0 = .ok (.lconst 0, 1) := by decide +kernel
theorem dX8_heldParts_1 : decode cX8_heldParts 1 = .ok (.lstore_n 3, 1) := by decide +kernel
theorem dX8_heldParts_2 : decode cX8_heldParts 2 = .ok (.iload_n 1, 1) := by decide +kernel
theorem dX8_heldParts_3 : decode cX8_heldParts 3 = .ok (.invokestatic 221, 3) := by decide +kernel
theorem dX8_heldParts_6 : decode cX8_heldParts 6 = .ok (.istore 5, 2) := by decide +kernel
theorem dX8_heldParts_8 : decode cX8_heldParts 8 = .ok (.iconst 0, 1) := by decide +kernel
theorem dX8_heldParts_9 : decode cX8_heldParts 9 = .ok (.istore 6, 2) := by decide +kernel
theorem dX8_heldParts_11 : decode cX8_heldParts 11 = .ok (.iload 6, 2) := by decide +kernel
theorem dX8_heldParts_13 : decode cX8_heldParts 13 = .ok (.iload_n 1, 1) := by decide +kernel
theorem dX8_heldParts_14 : decode cX8_heldParts 14 = .ok (.if_icmp .gt 62, 3) := by decide +kernel
theorem dX8_heldParts_17 : decode cX8_heldParts 17 = .ok (.iload 6, 2) := by decide +kernel
theorem dX8_heldParts_19 : decode cX8_heldParts 19 = .ok (.iload_n 1, 1) := by decide +kernel
theorem dX8_heldParts_20 : decode cX8_heldParts 20 = .ok (.iconst (-1), 1) := by decide +kernel
theorem dX8_heldParts_21 : decode cX8_heldParts 21 = .ok (.ixor, 1) := by decide +kernel
theorem dX8_heldParts_22 : decode cX8_heldParts 22 = .ok (.iand, 1) := by decide +kernel
theorem dX8_heldParts_23 : decode cX8_heldParts 23 = .ok (.ifCond .ne 47, 3) := by decide +kernel
theorem dX8_heldParts_26 : decode cX8_heldParts 26 = .ok (.aload_n 0, 1) := by decide +kernel
theorem dX8_heldParts_27 : decode cX8_heldParts 27 = .ok (.getfield 95, 3) := by decide +kernel
theorem dX8_heldParts_30 : decode cX8_heldParts 30 = .ok (.iload 6, 2) := by decide +kernel
theorem dX8_heldParts_32 : decode cX8_heldParts 32 = .ok (.baload, 1) := by decide +kernel
theorem dX8_heldParts_33 : decode cX8_heldParts 33 = .ok (.ifCond .ne 6, 3) := by decide +kernel
theorem dX8_heldParts_36 : decode cX8_heldParts 36 = .ok (.goto 34, 3) := by decide +kernel
theorem dX8_heldParts_70 : decode cX8_heldParts 70 = .ok (.iinc 6 1, 3) := by decide +kernel
theorem dX8_heldParts_73 : decode cX8_heldParts 73 = .ok (.goto (-62), 3) := by decide +kernel
theorem dX8_heldParts_76 : decode cX8_heldParts 76 = .ok (.lload_n 3, 1) := by decide +kernel
theorem dX8_heldParts_77 : decode cX8_heldParts 77 = .ok (.lreturn, 1) := by decide +kernel
theorem dX8_here_0 : decode cX8_here 0 = .ok (.aload_n 0, 1) := by decide +kernel
theorem dX8_here_1 : decode cX8_here 1 = .ok (.getfield 143, 3) := by decide +kernel
theorem dX8_here_4 : decode cX8_here 4 = .ok (.aload_n 0, 1) := by decide +kernel
theorem dX8_here_5 : decode cX8_here 5 = .ok (.getfield 137, 3) := by decide +kernel
theorem dX8_here_8 : decode cX8_here 8 = .ok (.if_icmp .ge 30, 3) := by decide +kernel
theorem dX8_here_38 : decode cX8_here 38 = .ok (.iconst (-1), 1) := by decide +kernel
theorem dX8_here_39 : decode cX8_here 39 = .ok (.ireturn, 1) := by decide +kernel
theorem dX8_ill_0 : decode cX8_ill 0 = .ok (.aload_n 0, 1) := by decide +kernel
theorem dX8_ill_1 : decode cX8_ill 1 = .ok (.iconst 0, 1) := by decide +kernel
theorem dX8_ill_2 : decode cX8_ill 2 = .ok (.putfield 114, 3) := by decide +kernel
theorem dX8_ill_5 : decode cX8_ill 5 = .ok (.aload_n 0, 1) := by decide +kernel
theorem dX8_ill_6 : decode cX8_ill 6 = .ok (.iload_n 1, 1) := by decide +kernel
theorem dX8_ill_7 : decode cX8_ill 7 = .ok (.invokevirtual 127, 3) := by decide +kernel
theorem dX8_ill_10 : decode cX8_ill 10 = .ok (.ifCond .ne 5, 3) := by decide +kernel
theorem dX8_ill_13 : decode cX8_ill 13 = .ok (.iconst (-1), 1) := by decide +kernel
theorem dX8_ill_14 : decode cX8_ill 14 = .ok (.ireturn, 1) := by decide +kernel
theorem dX8_illBits_0 : decode cX8_illBits 0 = .ok (.iconst 0, 1) := by decide +kernel
theorem dX8_illBits_1 : decode cX8_illBits 1 = .ok (.istore_n 2, 1) := by decide +kernel
theorem dX8_illBits_2 : decode cX8_illBits 2 = .ok (.iconst 0, 1) := by decide +kernel
theorem dX8_illBits_3 : decode cX8_illBits 3 = .ok (.istore_n 3, 1) := by decide +kernel
theorem dX8_illBits_4 : decode cX8_illBits 4 = .ok (.iload_n 3, 1) := by decide +kernel
theorem dX8_illBits_5 : decode cX8_illBits 5 = .ok (.aload_n 0, 1) := by decide +kernel
theorem dX8_illBits_6 : decode cX8_illBits 6 = .ok (.getfield 120, 3) := by decide +kernel
theorem dX8_illBits_9 : decode cX8_illBits 9 = .ok (.if_icmp .ge 20, 3) := by decide +kernel
theorem dX8_illBits_29 : decode cX8_illBits 29 = .ok (.iload_n 2, 1) := by decide +kernel
theorem dX8_illBits_30 : decode cX8_illBits 30 = .ok (.ireturn, 1) := by decide +kernel
theorem dX8_in_0 : decode cX8_in 0 = .ok (.iload_n 0, 1) := by decide +kernel
theorem dX8_in_1 : decode cX8_in 1 = .ok (.iload_n 1, 1) := by decide +kernel
theorem dX8_in_2 : decode cX8_in 2 = .ok (.if_icmp .lt 12, 3) := by decide +kernel
theorem dX8_in_5 : decode cX8_in 5 = .ok (.iload_n 0, 1) := by decide +kernel
theorem dX8_in_6 : decode cX8_in 6 = .ok (.iload_n 2, 1) := by decide +kernel
theorem dX8_in_7 : decode cX8_in 7 = .ok (.if_icmp .gt 7, 3) := by decide +kernel
theorem dX8_in_10 : decode cX8_in 10 = .ok (.iconst 1, 1) := by decide +kernel
theorem dX8_in_11 : decode cX8_in 11 = .ok (.goto 4, 3) := by decide +kernel
theorem dX8_in_14 : decode cX8_in 14 = .ok (.iconst 0, 1) := by decide +kernel
theorem dX8_in_15 : decode cX8_in 15 = .ok (.ireturn, 1) := by decide +kernel
theorem dX8_init_0 : decode cX8_init 0 = .ok (.aload_n 0, 1) := by decide +kernel
theorem dX8_init_1 : decode cX8_init 1 = .ok (.invokespecial 3, 3) := by decide +kernel
theorem dX8_init_4 : decode cX8_init 4 = .ok (.aload_n 0, 1) := by decide +kernel
theorem dX8_init_5 : decode cX8_init 5 = .ok (.bipush 27, 2) := by decide +kernel
theorem dX8_init_7 : decode cX8_init 7 = .ok (.newarray .int, 2) := by decide +kernel
theorem dX8_init_9 : decode cX8_init 9 = .ok (.putfield 9, 3) := by decide +kernel
theorem dX8_init_12 : decode cX8_init 12 = .ok (.aload_n 0, 1) := by decide +kernel
theorem dX8_init_13 : decode cX8_init 13 = .ok (.bipush 8, 2) := by decide +kernel
theorem dX8_init_15 : decode cX8_init 15 = .ok (.putfield 13, 3) := by decide +kernel
theorem dX8_init_18 : decode cX8_init 18 = .ok (.aload_n 0, 1) := by decide +kernel
theorem dX8_init_19 : decode cX8_init 19 = .ok (.iconst 4, 1) := by decide +kernel
theorem dX8_init_20 : decode cX8_init 20 = .ok (.putfield 17, 3) := by decide +kernel
theorem dX8_init_23 : decode cX8_init 23 = .ok (.aload_n 0, 1) := by decide +kernel
theorem dX8_init_24 : decode cX8_init 24 = .ok (.bipush 8, 2) := by decide +kernel
theorem dX8_init_26 : decode cX8_init 26 = .ok (.newarray .int, 2) := by decide +kernel
theorem dX8_init_28 : decode cX8_init 28 = .ok (.putfield 20, 3) := by decide +kernel
theorem dX8_init_31 : decode cX8_init 31 = .ok (.aload_n 0, 1) := by decide +kernel
theorem dX8_init_32 : decode cX8_init 32 = .ok (.bipush 8, 2) := by decide +kernel
theorem dX8_init_34 : decode cX8_init 34 = .ok (.newarray .int, 2) := by decide +kernel
theorem dX8_init_36 : decode cX8_init 36 = .ok (.putfield 23, 3) := by decide +kernel
theorem dX8_init_39 : decode cX8_init 39 = .ok (.aload_n 0, 1) := by decide +kernel
theorem dX8_init_40 : decode cX8_init 40 = .ok (.bipush 8, 2) := by decide +kernel
theorem dX8_init_42 : decode cX8_init 42 = .ok (.newarray .int, 2) := by decide +kernel
theorem dX8_init_44 : decode cX8_init 44 = .ok (.putfield 26, 3) := by decide +kernel
theorem dX8_init_47 : decode cX8_init 47 = .ok (.aload_n 0, 1) := by decide +kernel
theorem dX8_init_48 : decode cX8_init 48 = .ok (.bipush 80, 2) := by decide +kernel
theorem dX8_init_50 : decode cX8_init 50 = .ok (.newarray .byte, 2) := by decide +kernel
theorem dX8_init_52 : decode cX8_init 52 = .ok (.putfield 29, 3) := by decide +kernel
theorem dX8_init_55 : decode cX8_init 55 = .ok (.aload_n 0, 1) := by decide +kernel
theorem dX8_init_56 : decode cX8_init 56 = .ok (.bipush 16, 2) := by decide +kernel
theorem dX8_init_58 : decode cX8_init 58 = .ok (.newarray .long, 2) := by decide +kernel
theorem dX8_init_60 : decode cX8_init 60 = .ok (.putfield 33, 3) := by decide +kernel
theorem dX8_init_63 : decode cX8_init 63 = .ok (.aload_n 0, 1) := by decide +kernel
theorem dX8_init_64 : decode cX8_init 64 = .ok (.bipush 24, 2) := by decide +kernel
theorem dX8_init_66 : decode cX8_init 66 = .ok (.newarray .int, 2) := by decide +kernel
theorem dX8_init_68 : decode cX8_init 68 = .ok (.putfield 37, 3) := by decide +kernel
theorem dX8_init_71 : decode cX8_init 71 = .ok (.aload_n 0, 1) := by decide +kernel
theorem dX8_init_72 : decode cX8_init 72 = .ok (.bipush 40, 2) := by decide +kernel
theorem dX8_init_74 : decode cX8_init 74 = .ok (.newarray .byte, 2) := by decide +kernel
theorem dX8_init_76 : decode cX8_init 76 = .ok (.putfield 40, 3) := by decide +kernel
theorem dX8_init_79 : decode cX8_init 79 = .ok (.aload_n 0, 1) := by decide +kernel
theorem dX8_init_80 : decode cX8_init 80 = .ok (.bipush 40, 2) := by decide +kernel
theorem dX8_init_82 : decode cX8_init 82 = .ok (.newarray .byte, 2) := by decide +kernel
theorem dX8_init_84 : decode cX8_init 84 = .ok (.putfield 43, 3) := by decide +kernel
theorem dX8_init_87 : decode cX8_init 87 = .ok (.aload_n 0, 1) := by decide +kernel
theorem dX8_init_88 : decode cX8_init 88 = .ok (.bipush 7, 2) := by decide +kernel
theorem dX8_init_90 : decode cX8_init 90 = .ok (.newarray .int, 2) := by decide +kernel
theorem dX8_init_92 : decode cX8_init 92 = .ok (.putfield 46, 3) := by decide +kernel
theorem dX8_init_95 : decode cX8_init 95 = .ok (.aload_n 0, 1) := by decide +kernel
theorem dX8_init_96 : decode cX8_init 96 = .ok (.sipush 324, 3) := by decide +kernel
theorem dX8_init_99 : decode cX8_init 99 = .ok (.newarray .int, 2) := by decide +kernel
theorem dX8_init_101 : decode cX8_init 101 = .ok (.putfield 49, 3) := by decide +kernel
theorem dX8_init_104 : decode cX8_init 104 = .ok (.aload_n 0, 1) := by decide +kernel
theorem dX8_init_105 : decode cX8_init 105 = .ok (.bipush 27, 2) := by decide +kernel
theorem dX8_init_107 : decode cX8_init 107 = .ok (.newarray .int, 2) := by decide +kernel
theorem dX8_init_109 : decode cX8_init 109 = .ok (.putfield 52, 3) := by decide +kernel
theorem dX8_init_112 : decode cX8_init 112 = .ok (.aload_n 0, 1) := by decide +kernel
theorem dX8_init_113 : decode cX8_init 113 = .ok (.bipush 27, 2) := by decide +kernel
theorem dX8_init_115 : decode cX8_init 115 = .ok (.newarray .int, 2) := by decide +kernel
theorem dX8_init_117 : decode cX8_init 117 = .ok (.putfield 55, 3) := by decide +kernel
theorem dX8_init_120 : decode cX8_init 120 = .ok (.aload_n 0, 1) := by decide +kernel
theorem dX8_init_121 : decode cX8_init 121 = .ok (.bipush 8, 2) := by decide +kernel
theorem dX8_init_123 : decode cX8_init 123 = .ok (.newarray .int, 2) := by decide +kernel
theorem dX8_init_125 : decode cX8_init 125 = .ok (.putfield 58, 3) := by decide +kernel
theorem dX8_init_128 : decode cX8_init 128 = .ok (.aload_n 0, 1) := by decide +kernel
theorem dX8_init_129 : decode cX8_init 129 = .ok (.bipush 8, 2) := by decide +kernel
theorem dX8_init_131 : decode cX8_init 131 = .ok (.newarray .int, 2) := by decide +kernel
theorem dX8_init_133 : decode cX8_init 133 = .ok (.putfield 61, 3) := by decide +kernel
theorem dX8_init_136 : decode cX8_init 136 = .ok (.aload_n 0, 1) := by decide +kernel
theorem dX8_init_137 : decode cX8_init 137 = .ok (.sipush 240, 3) := by decide +kernel
theorem dX8_init_140 : decode cX8_init 140 = .ok (.newarray .int, 2) := by decide +kernel
theorem dX8_init_142 : decode cX8_init 142 = .ok (.putfield 64, 3) := by decide +kernel
theorem dX8_init_145 : decode cX8_init 145 = .ok (.aload_n 0, 1) := by decide +kernel
theorem dX8_init_146 : decode cX8_init 146 = .ok (.bipush 8, 2) := by decide +kernel
theorem dX8_init_148 : decode cX8_init 148 = .ok (.newarray .int, 2) := by decide +kernel
theorem dX8_init_150 : decode cX8_init 150 = .ok (.putfield 67, 3) := by decide +kernel
theorem dX8_init_153 : decode cX8_init 153 = .ok (.aload_n 0, 1) := by decide +kernel
theorem dX8_init_154 : decode cX8_init 154 = .ok (.bipush 8, 2) := by decide +kernel
theorem dX8_init_156 : decode cX8_init 156 = .ok (.newarray .int, 2) := by decide +kernel
theorem dX8_init_158 : decode cX8_init 158 = .ok (.putfield 70, 3) := by decide +kernel
theorem dX8_init_161 : decode cX8_init 161 = .ok (.aload_n 0, 1) := by decide +kernel
theorem dX8_init_162 : decode cX8_init 162 = .ok (.bipush 8, 2) := by decide +kernel
theorem dX8_init_164 : decode cX8_init 164 = .ok (.newarray .int, 2) := by decide +kernel
theorem dX8_init_166 : decode cX8_init 166 = .ok (.putfield 73, 3) := by decide +kernel
theorem dX8_init_169 : decode cX8_init 169 = .ok (.aload_n 0, 1) := by decide +kernel
theorem dX8_init_170 : decode cX8_init 170 = .ok (.bipush 8, 2) := by decide +kernel
theorem dX8_init_172 : decode cX8_init 172 = .ok (.newarray .int, 2) := by decide +kernel
theorem dX8_init_174 : decode cX8_init 174 = .ok (.putfield 76, 3) := by decide +kernel
theorem dX8_init_177 : decode cX8_init 177 = .ok (.aload_n 0, 1) := by decide +kernel
theorem dX8_init_178 : decode cX8_init 178 = .ok (.bipush 64, 2) := by decide +kernel
theorem dX8_init_180 : decode cX8_init 180 = .ok (.newarray .int, 2) := by decide +kernel
theorem dX8_init_182 : decode cX8_init 182 = .ok (.putfield 79, 3) := by decide +kernel
theorem dX8_init_185 : decode cX8_init 185 = .ok (.aload_n 0, 1) := by decide +kernel
theorem dX8_init_186 : decode cX8_init 186 = .ok (.sipush 2304, 3) := by decide +kernel
theorem dX8_init_189 : decode cX8_init 189 = .ok (.newarray .int, 2) := by decide +kernel
theorem dX8_init_191 : decode cX8_init 191 = .ok (.putfield 82, 3) := by decide +kernel
theorem dX8_init_194 : decode cX8_init 194 = .ok (.aload_n 0, 1) := by decide +kernel
theorem dX8_init_195 : decode cX8_init 195 = .ok (.sipush 2304, 3) := by decide +kernel
theorem dX8_init_198 : decode cX8_init 198 = .ok (.newarray .int, 2) := by decide +kernel
theorem dX8_init_200 : decode cX8_init 200 = .ok (.putfield 85, 3) := by decide +kernel
theorem dX8_init_203 : decode cX8_init 203 = .ok (.aload_n 0, 1) := by decide +kernel
theorem dX8_init_204 : decode cX8_init 204 = .ok (.ldc 88, 2) := by decide +kernel
theorem dX8_init_206 : decode cX8_init 206 = .ok (.putfield 89, 3) := by decide +kernel
theorem dX8_init_209 : decode cX8_init 209 = .ok (.aload_n 0, 1) := by decide +kernel
theorem dX8_init_210 : decode cX8_init 210 = .ok (.bipush 8, 2) := by decide +kernel
theorem dX8_init_212 : decode cX8_init 212 = .ok (.newarray .int, 2) := by decide +kernel
theorem dX8_init_214 : decode cX8_init 214 = .ok (.putfield 92, 3) := by decide +kernel
theorem dX8_init_217 : decode cX8_init 217 = .ok (.aload_n 0, 1) := by decide +kernel
theorem dX8_init_218 : decode cX8_init 218 = .ok (.sipush 256, 3) := by decide +kernel
theorem dX8_init_221 : decode cX8_init 221 = .ok (.newarray .boolean, 2) := by decide +kernel
theorem dX8_init_223 : decode cX8_init 223 = .ok (.putfield 95, 3) := by decide +kernel
theorem dX8_init_226 : decode cX8_init 226 = .ok (.aload_n 0, 1) := by decide +kernel
theorem dX8_init_227 : decode cX8_init 227 = .ok (.bipush 12, 2) := by decide +kernel
theorem dX8_init_229 : decode cX8_init 229 = .ok (.newarray .int, 2) := by decide +kernel
theorem dX8_init_231 : decode cX8_init 231 = .ok (.putfield 99, 3) := by decide +kernel
theorem dX8_init_234 : decode cX8_init 234 = .ok (.aload_n 0, 1) := by decide +kernel
theorem dX8_init_235 : decode cX8_init 235 = .ok (.bipush 12, 2) := by decide +kernel
theorem dX8_init_237 : decode cX8_init 237 = .ok (.newarray .int, 2) := by decide +kernel
theorem dX8_init_239 : decode cX8_init 239 = .ok (.putfield 102, 3) := by decide +kernel
theorem dX8_init_242 : decode cX8_init 242 = .ok (.aload_n 0, 1) := by decide +kernel
theorem dX8_init_243 : decode cX8_init 243 = .ok (.bipush 54, 2) := by decide +kernel
theorem dX8_init_245 : decode cX8_init 245 = .ok (.newarray .int, 2) := by decide +kernel
theorem dX8_init_247 : decode cX8_init 247 = .ok (.putfield 105, 3) := by decide +kernel
theorem dX8_init_250 : decode cX8_init 250 = .ok (.aload_n 0, 1) := by decide +kernel
theorem dX8_init_251 : decode cX8_init 251 = .ok (.iconst 2, 1) := by decide +kernel
theorem dX8_init_252 : decode cX8_init 252 = .ok (.newarray .boolean, 2) := by decide +kernel
theorem dX8_init_254 : decode cX8_init 254 = .ok (.putfield 108, 3) := by decide +kernel
theorem dX8_init_257 : decode cX8_init 257 = .ok (.aload_n 0, 1) := by decide +kernel
theorem dX8_init_258 : decode cX8_init 258 = .ok (.iconst 2, 1) := by decide +kernel
theorem dX8_init_259 : decode cX8_init 259 = .ok (.newarray .int, 2) := by decide +kernel
theorem dX8_init_261 : decode cX8_init 261 = .ok (.putfield 111, 3) := by decide +kernel
theorem dX8_init_264 : decode cX8_init 264 = .ok (.iconst 0, 1) := by decide +kernel
theorem dX8_init_265 : decode cX8_init 265 = .ok (.istore_n 1, 1) := by decide +kernel
theorem dX8_init_266 : decode cX8_init 266 = .ok (.iload_n 1, 1) := by decide +kernel
theorem dX8_init_267 : decode cX8_init 267 = .ok (.bipush 8, 2) := by decide +kernel
theorem dX8_init_269 : decode cX8_init 269 = .ok (.if_icmp .ge 16, 3) := by decide +kernel
theorem dX8_init_272 : decode cX8_init 272 = .ok (.aload_n 0, 1) := by decide +kernel
theorem dX8_init_273 : decode cX8_init 273 = .ok (.getfield 9, 3) := by decide +kernel
theorem dX8_init_276 : decode cX8_init 276 = .ok (.iload_n 1, 1) := by decide +kernel
theorem dX8_init_277 : decode cX8_init 277 = .ok (.iconst (-1), 1) := by decide +kernel
theorem dX8_init_278 : decode cX8_init 278 = .ok (.iastore, 1) := by decide +kernel
theorem dX8_init_279 : decode cX8_init 279 = .ok (.iinc 1 1, 3) := by decide +kernel
theorem dX8_init_282 : decode cX8_init 282 = .ok (.goto (-16), 3) := by decide +kernel
theorem dX8_init_285 : decode cX8_init 285 = .ok (.return_, 1) := by decide +kernel
theorem dX8_isGift_0 : decode cX8_isGift 0 = .ok (.iload_n 1, 1) := by decide +kernel
theorem dX8_isGift_1 : decode cX8_isGift 1 = .ok (.invokestatic 242, 3) := by decide +kernel
theorem dX8_isGift_4 : decode cX8_isGift 4 = .ok (.ifCond .eq 20, 3) := by decide +kernel
theorem dX8_isGift_7 : decode cX8_isGift 7 = .ok (.iload_n 2, 1) := by decide +kernel
theorem dX8_isGift_8 : decode cX8_isGift 8 = .ok (.iconst (-1), 1) := by decide +kernel
theorem dX8_isGift_9 : decode cX8_isGift 9 = .ok (.if_icmp .eq 11, 3) := by decide +kernel
theorem dX8_isGift_12 : decode cX8_isGift 12 = .ok (.aload_n 0, 1) := by decide +kernel
theorem dX8_isGift_13 : decode cX8_isGift 13 = .ok (.iload_n 2, 1) := by decide +kernel
theorem dX8_isGift_14 : decode cX8_isGift 14 = .ok (.invokevirtual 127, 3) := by decide +kernel
theorem dX8_isGift_17 : decode cX8_isGift 17 = .ok (.ifCond .eq 7, 3) := by decide +kernel
theorem dX8_isGift_20 : decode cX8_isGift 20 = .ok (.iconst 1, 1) := by decide +kernel
theorem dX8_isGift_21 : decode cX8_isGift 21 = .ok (.goto 4, 3) := by decide +kernel
theorem dX8_isGift_24 : decode cX8_isGift 24 = .ok (.iconst 0, 1) := by decide +kernel
theorem dX8_isGift_25 : decode cX8_isGift 25 = .ok (.ireturn, 1) := by decide +kernel
theorem dX8_isHour_0 : decode cX8_isHour 0 = .ok (.iload_n 0, 1) := by decide +kernel
theorem dX8_isHour_1 : decode cX8_isHour 1 = .ok (.iconst 0, 1) := by decide +kernel
theorem dX8_isHour_2 : decode cX8_isHour 2 = .ok (.bipush 7, 2) := by decide +kernel
theorem dX8_isHour_4 : decode cX8_isHour 4 = .ok (.invokestatic 123, 3) := by decide +kernel
theorem dX8_isHour_7 : decode cX8_isHour 7 = .ok (.ireturn, 1) := by decide +kernel
theorem dX8_isMan_0 : decode cX8_isMan 0 = .ok (.iload_n 1, 1) := by decide +kernel
theorem dX8_isMan_1 : decode cX8_isMan 1 = .ok (.iconst 0, 1) := by decide +kernel
theorem dX8_isMan_2 : decode cX8_isMan 2 = .ok (.aload_n 0, 1) := by decide +kernel
theorem dX8_isMan_3 : decode cX8_isMan 3 = .ok (.getfield 120, 3) := by decide +kernel
theorem dX8_isMan_6 : decode cX8_isMan 6 = .ok (.iconst 1, 1) := by decide +kernel
theorem dX8_isMan_7 : decode cX8_isMan 7 = .ok (.isub, 1) := by decide +kernel
theorem dX8_isMan_8 : decode cX8_isMan 8 = .ok (.invokestatic 123, 3) := by decide +kernel
theorem dX8_isMan_11 : decode cX8_isMan 11 = .ok (.ireturn, 1) := by decide +kernel
theorem dX8_isRest_0 : decode cX8_isRest 0 = .ok (.iconst 0, 1) := by decide +kernel
theorem dX8_isRest_1 : decode cX8_isRest 1 = .ok (.istore 4, 2) := by decide +kernel
theorem dX8_isRest_3 : decode cX8_isRest 3 = .ok (.iload 4, 2) := by decide +kernel
theorem dX8_isRest_5 : decode cX8_isRest 5 = .ok (.bipush 9, 2) := by decide +kernel
theorem dX8_isRest_7 : decode cX8_isRest 7 = .ok (.if_icmp .gt 43, 3) := by decide +kernel
theorem dX8_isRest_10 : decode cX8_isRest 10 = .ok (.iload 4, 2) := by decide +kernel
theorem dX8_isRest_12 : decode cX8_isRest 12 = .ok (.iload_n 1, 1) := by decide +kernel
theorem dX8_isRest_13 : decode cX8_isRest 13 = .ok (.iload_n 2, 1) := by decide +kernel
theorem dX8_isRest_14 : decode cX8_isRest 14 = .ok (.invokestatic 395, 3) := by decide +kernel
theorem dX8_isRest_17 : decode cX8_isRest 17 = .ok (.iload_n 0, 1) := by decide +kernel
theorem dX8_isRest_18 : decode cX8_isRest 18 = .ok (.iload_n 1, 1) := by decide +kernel
theorem dX8_isRest_19 : decode cX8_isRest 19 = .ok (.iload_n 2, 1) := by decide +kernel
theorem dX8_isRest_20 : decode cX8_isRest 20 = .ok (.invokestatic 395, 3) := by decide +kernel
theorem dX8_isRest_23 : decode cX8_isRest 23 = .ok (.if_icmp .gt 19, 3) := by decide +kernel
theorem dX8_isRest_26 : decode cX8_isRest 26 = .ok (.iload_n 0, 1) := by decide +kernel
theorem dX8_isRest_27 : decode cX8_isRest 27 = .ok (.iload 4, 2) := by decide +kernel
theorem dX8_isRest_29 : decode cX8_isRest 29 = .ok (.iload_n 3, 1) := by decide +kernel
theorem dX8_isRest_30 : decode cX8_isRest 30 = .ok (.invokestatic 398, 3) := by decide +kernel
theorem dX8_isRest_33 : decode cX8_isRest 33 = .ok (.iload_n 0, 1) := by decide +kernel
theorem dX8_isRest_34 : decode cX8_isRest 34 = .ok (.iload_n 1, 1) := by decide +kernel
theorem dX8_isRest_35 : decode cX8_isRest 35 = .ok (.iload_n 3, 1) := by decide +kernel
theorem dX8_isRest_36 : decode cX8_isRest 36 = .ok (.invokestatic 398, 3) := by decide +kernel
theorem dX8_isRest_39 : decode cX8_isRest 39 = .ok (.if_icmp .le 5, 3) := by decide +kernel
theorem dX8_isRest_42 : decode cX8_isRest 42 = .ok (.iconst 0, 1) := by decide +kernel
theorem dX8_isRest_43 : decode cX8_isRest 43 = .ok (.ireturn, 1) := by decide +kernel
theorem dX8_isRest_44 : decode cX8_isRest 44 = .ok (.iinc 4 1, 3) := by decide +kernel
theorem dX8_isRest_47 : decode cX8_isRest 47 = .ok (.goto (-44), 3) := by decide +kernel
theorem dX8_isRest_50 : decode cX8_isRest 50 = .ok (.iconst 1, 1) := by decide +kernel
theorem dX8_isRest_51 : decode cX8_isRest 51 = .ok (.ireturn, 1) := by decide +kernel
theorem dX8_keep_0 : decode cX8_keep 0 = .ok (.aload_n 0, 1) := by decide +kernel
theorem dX8_keep_1 : decode cX8_keep 1 = .ok (.iconst 0, 1) := by decide +kernel
theorem dX8_keep_2 : decode cX8_keep 2 = .ok (.putfield 114, 3) := by decide +kernel
theorem dX8_keep_5 : decode cX8_keep 5 = .ok (.iload_n 1, 1) := by decide +kernel
theorem dX8_keep_6 : decode cX8_keep 6 = .ok (.iconst 0, 1) := by decide +kernel
theorem dX8_keep_7 : decode cX8_keep 7 = .ok (.iconst 1, 1) := by decide +kernel
theorem dX8_keep_8 : decode cX8_keep 8 = .ok (.invokestatic 123, 3) := by decide +kernel
theorem dX8_keep_11 : decode cX8_keep 11 = .ok (.ifCond .ne 5, 3) := by decide +kernel
theorem dX8_keep_14 : decode cX8_keep 14 = .ok (.iconst 0, 1) := by decide +kernel
theorem dX8_keep_15 : decode cX8_keep 15 = .ok (.ireturn, 1) := by decide +kernel
theorem dX8_keep_16 : decode cX8_keep 16 = .ok (.aload_n 0, 1) := by decide +kernel
theorem dX8_keep_17 : decode cX8_keep 17 = .ok (.getfield 108, 3) := by decide +kernel
theorem dX8_keep_20 : decode cX8_keep 20 = .ok (.iload_n 1, 1) := by decide +kernel
theorem dX8_keep_21 : decode cX8_keep 21 = .ok (.iconst 1, 1) := by decide +kernel
theorem dX8_keep_22 : decode cX8_keep 22 = .ok (.bastore, 1) := by decide +kernel
theorem dX8_keep_23 : decode cX8_keep 23 = .ok (.aload_n 0, 1) := by decide +kernel
theorem dX8_keep_24 : decode cX8_keep 24 = .ok (.getfield 111, 3) := by decide +kernel
theorem dX8_keep_27 : decode cX8_keep 27 = .ok (.iload_n 1, 1) := by decide +kernel
theorem dX8_keep_28 : decode cX8_keep 28 = .ok (.aload_n 0, 1) := by decide +kernel
theorem dX8_keep_29 : decode cX8_keep 29 = .ok (.getfield 185, 3) := by decide +kernel
theorem dX8_keep_32 : decode cX8_keep 32 = .ok (.iastore, 1) := by decide +kernel
theorem dX8_keep_33 : decode cX8_keep 33 = .ok (.aload_n 0, 1) := by decide +kernel
theorem dX8_keep_34 : decode cX8_keep 34 = .ok (.getfield 9, 3) := by decide +kernel
theorem dX8_keep_37 : decode cX8_keep 37 = .ok (.aload_n 0, 1) := by decide +kernel
theorem dX8_keep_38 : decode cX8_keep 38 = .ok (.getfield 105, 3) := by decide +kernel
theorem dX8_keep_41 : decode cX8_keep 41 = .ok (.bipush 27, 2) := by decide +kernel
theorem dX8_keep_43 : decode cX8_keep 43 = .ok (.iload_n 1, 1) := by decide +kernel
theorem dX8_keep_44 : decode cX8_keep 44 = .ok (.imul, 1) := by decide +kernel
theorem dX8_keep_45 : decode cX8_keep 45 = .ok (.invokestatic 249, 3) := by decide +kernel
theorem dX8_keep_48 : decode cX8_keep 48 = .ok (.iconst 1, 1) := by decide +kernel
theorem dX8_keep_49 : decode cX8_keep 49 = .ok (.ireturn, 1) := by decide +kernel
theorem dX8_keystone_0 : decode cX8_keystone 0 = .ok (.aload_n 0, 1) := by decide +kernel
theorem dX8_keystone_1 : decode cX8_keystone 1 = .ok (.iconst 0, 1) := by decide +kernel
theorem dX8_keystone_2 : decode cX8_keystone 2 = .ok (.putfield 114, 3) := by decide +kernel
theorem dX8_keystone_5 : decode cX8_keystone 5 = .ok (.iload_n 1, 1) := by decide +kernel
theorem dX8_keystone_6 : decode cX8_keystone 6 = .ok (.iconst 0, 1) := by decide +kernel
theorem dX8_keystone_7 : decode cX8_keystone 7 = .ok (.bipush 10, 2) := by decide +kernel
theorem dX8_keystone_9 : decode cX8_keystone 9 = .ok (.invokestatic 123, 3) := by decide +kernel
theorem dX8_keystone_12 : decode cX8_keystone 12 = .ok (.ifCond .ne 5, 3) := by decide +kernel
theorem dX8_keystone_15 : decode cX8_keystone 15 = .ok (.iconst (-1), 1) := by decide +kernel
theorem dX8_keystone_16 : decode cX8_keystone 16 = .ok (.ireturn, 1) := by decide +kernel
theorem dX8_keystone_17 : decode cX8_keystone 17 = .ok (.aload_n 0, 1) := by decide +kernel
theorem dX8_keystone_18 : decode cX8_keystone 18 = .ok (.invokevirtual 386, 3) := by decide +kernel
theorem dX8_keystone_21 : decode cX8_keystone 21 = .ok (.istore_n 2, 1) := by decide +kernel
theorem dX8_keystone_22 : decode cX8_keystone 22 = .ok (.iload_n 2, 1) := by decide +kernel
theorem dX8_keystone_23 : decode cX8_keystone 23 = .ok (.ifCond .ne 6, 3) := by decide +kernel
theorem dX8_keystone_26 : decode cX8_keystone 26 = .ok (.bipush (-2), 2) := by decide +kernel
theorem dX8_keystone_28 : decode cX8_keystone 28 = .ok (.ireturn, 1) := by decide +kernel
theorem dX8_later_0 : decode cX8_later 0 = .ok (.aload_n 0, 1) := by decide +kernel
theorem dX8_later_1 : decode cX8_later 1 = .ok (.iconst 0, 1) := by decide +kernel
theorem dX8_later_2 : decode cX8_later 2 = .ok (.putfield 114, 3) := by decide +kernel
theorem dX8_later_5 : decode cX8_later 5 = .ok (.iload_n 1, 1) := by decide +kernel
theorem dX8_later_6 : decode cX8_later 6 = .ok (.iconst 0, 1) := by decide +kernel
theorem dX8_later_7 : decode cX8_later 7 = .ok (.bipush 60, 2) := by decide +kernel
theorem dX8_later_9 : decode cX8_later 9 = .ok (.invokestatic 123, 3) := by decide +kernel
theorem dX8_later_12 : decode cX8_later 12 = .ok (.ifCond .ne 5, 3) := by decide +kernel
theorem dX8_later_15 : decode cX8_later 15 = .ok (.iconst (-1), 1) := by decide +kernel
theorem dX8_later_16 : decode cX8_later 16 = .ok (.ireturn, 1) := by decide +kernel
theorem dX8_later_17 : decode cX8_later 17 = .ok (.aload_n 0, 1) := by decide +kernel
theorem dX8_later_18 : decode cX8_later 18 = .ok (.getfield 9, 3) := by decide +kernel
theorem dX8_later_21 : decode cX8_later 21 = .ok (.aload_n 0, 1) := by decide +kernel
theorem dX8_later_22 : decode cX8_later 22 = .ok (.getfield 55, 3) := by decide +kernel
theorem dX8_later_25 : decode cX8_later 25 = .ok (.iconst 0, 1) := by decide +kernel
theorem dX8_later_26 : decode cX8_later 26 = .ok (.invokestatic 249, 3) := by decide +kernel
theorem dX8_later_29 : decode cX8_later 29 = .ok (.aload_n 0, 1) := by decide +kernel
theorem dX8_later_30 : decode cX8_later 30 = .ok (.aload_n 0, 1) := by decide +kernel
theorem dX8_later_31 : decode cX8_later 31 = .ok (.getfield 55, 3) := by decide +kernel
theorem dX8_later_34 : decode cX8_later 34 = .ok (.iload_n 1, 1) := by decide +kernel
theorem dX8_later_35 : decode cX8_later 35 = .ok (.invokevirtual 280, 3) := by decide +kernel
theorem dX8_later_38 : decode cX8_later 38 = .ok (.iconst 0, 1) := by decide +kernel
theorem dX8_later_39 : decode cX8_later 39 = .ok (.istore_n 2, 1) := by decide +kernel
theorem dX8_later_40 : decode cX8_later 40 = .ok (.iconst 0, 1) := by decide +kernel
theorem dX8_later_41 : decode cX8_later 41 = .ok (.istore_n 3, 1) := by decide +kernel
theorem dX8_later_42 : decode cX8_later 42 = .ok (.iload_n 3, 1) := by decide +kernel
theorem dX8_later_43 : decode cX8_later 43 = .ok (.aload_n 0, 1) := by decide +kernel
theorem dX8_later_44 : decode cX8_later 44 = .ok (.getfield 120, 3) := by decide +kernel
theorem dX8_later_47 : decode cX8_later 47 = .ok (.if_icmp .ge 23, 3) := by decide +kernel
theorem dX8_later_70 : decode cX8_later 70 = .ok (.aload_n 0, 1) := by decide +kernel
theorem dX8_later_71 : decode cX8_later 71 = .ok (.iconst 0, 1) := by decide +kernel
theorem dX8_later_72 : decode cX8_later 72 = .ok (.putfield 117, 3) := by decide +kernel
theorem dX8_later_75 : decode cX8_later 75 = .ok (.aload_n 0, 1) := by decide +kernel
theorem dX8_later_76 : decode cX8_later 76 = .ok (.aload_n 0, 1) := by decide +kernel
theorem dX8_later_77 : decode cX8_later 77 = .ok (.aload_n 0, 1) := by decide +kernel
theorem dX8_later_78 : decode cX8_later 78 = .ok (.getfield 55, 3) := by decide +kernel
theorem dX8_later_81 : decode cX8_later 81 = .ok (.invokevirtual 288, 3) := by decide +kernel
theorem dX8_later_84 : decode cX8_later 84 = .ok (.i2l, 1) := by decide +kernel
theorem dX8_later_85 : decode cX8_later 85 = .ok (.invokevirtual 284, 3) := by decide +kernel
theorem dX8_later_88 : decode cX8_later 88 = .ok (.aload_n 0, 1) := by decide +kernel
theorem dX8_later_89 : decode cX8_later 89 = .ok (.iload_n 2, 1) := by decide +kernel
theorem dX8_later_90 : decode cX8_later 90 = .ok (.i2l, 1) := by decide +kernel
theorem dX8_later_91 : decode cX8_later 91 = .ok (.invokevirtual 284, 3) := by decide +kernel
theorem dX8_later_94 : decode cX8_later 94 = .ok (.aload_n 0, 1) := by decide +kernel
theorem dX8_later_95 : decode cX8_later 95 = .ok (.getfield 55, 3) := by decide +kernel
theorem dX8_later_98 : decode cX8_later 98 = .ok (.bipush 25, 2) := by decide +kernel
theorem dX8_later_100 : decode cX8_later 100 = .ok (.iaload, 1) := by decide +kernel
theorem dX8_later_101 : decode cX8_later 101 = .ok (.aload_n 0, 1) := by decide +kernel
theorem dX8_later_102 : decode cX8_later 102 = .ok (.getfield 9, 3) := by decide +kernel
theorem dX8_later_105 : decode cX8_later 105 = .ok (.bipush 25, 2) := by decide +kernel
theorem dX8_later_107 : decode cX8_later 107 = .ok (.iaload, 1) := by decide +kernel
theorem dX8_later_108 : decode cX8_later 108 = .ok (.isub, 1) := by decide +kernel
theorem dX8_later_109 : decode cX8_later 109 = .ok (.ireturn, 1) := by decide +kernel
theorem dX8_law_0 : decode cX8_law 0 = .ok (.aload_n 0, 1) := by decide +kernel
theorem dX8_law_1 : decode cX8_law 1 = .ok (.iconst 0, 1) := by decide +kernel
theorem dX8_law_2 : decode cX8_law 2 = .ok (.putfield 114, 3) := by decide +kernel
theorem dX8_law_5 : decode cX8_law 5 = .ok (.aload_n 0, 1) := by decide +kernel
theorem dX8_law_6 : decode cX8_law 6 = .ok (.getfield 131, 3) := by decide +kernel
theorem dX8_law_9 : decode cX8_law 9 = .ok (.istore_n 1, 1) := by decide +kernel
theorem dX8_law_10 : decode cX8_law 10 = .ok (.aload_n 0, 1) := by decide +kernel
theorem dX8_law_11 : decode cX8_law 11 = .ok (.invokevirtual 215, 3) := by decide +kernel
theorem dX8_law_14 : decode cX8_law 14 = .ok (.ifCond .ne 12, 3) := by decide +kernel
theorem dX8_law_26 : decode cX8_law 26 = .ok (.aload_n 0, 1) := by decide +kernel
theorem dX8_law_27 : decode cX8_law 27 = .ok (.invokevirtual 405, 3) := by decide +kernel
theorem dX8_law_30 : decode cX8_law 30 = .ok (.istore_n 2, 1) := by decide +kernel
theorem dX8_law_31 : decode cX8_law 31 = .ok (.aload_n 0, 1) := by decide +kernel
theorem dX8_law_32 : decode cX8_law 32 = .ok (.getfield 40, 3) := by decide +kernel
theorem dX8_law_35 : decode cX8_law 35 = .ok (.astore_n 3, 1) := by decide +kernel
theorem dX8_law_36 : decode cX8_law 36 = .ok (.aload_n 0, 1) := by decide +kernel
theorem dX8_law_37 : decode cX8_law 37 = .ok (.getfield 218, 3) := by decide +kernel
theorem dX8_law_40 : decode cX8_law 40 = .ok (.istore 4, 2) := by decide +kernel
theorem dX8_law_42 : decode cX8_law 42 = .ok (.aload_n 0, 1) := by decide +kernel
theorem dX8_law_43 : decode cX8_law 43 = .ok (.aload_n 0, 1) := by decide +kernel
theorem dX8_law_44 : decode cX8_law 44 = .ok (.getfield 43, 3) := by decide +kernel
theorem dX8_law_47 : decode cX8_law 47 = .ok (.putfield 40, 3) := by decide +kernel
theorem dX8_law_50 : decode cX8_law 50 = .ok (.aload_n 0, 1) := by decide +kernel
theorem dX8_law_51 : decode cX8_law 51 = .ok (.iload_n 1, 1) := by decide +kernel
theorem dX8_law_52 : decode cX8_law 52 = .ok (.putfield 218, 3) := by decide +kernel
theorem dX8_law_55 : decode cX8_law 55 = .ok (.iconst 0, 1) := by decide +kernel
theorem dX8_law_56 : decode cX8_law 56 = .ok (.istore 5, 2) := by decide +kernel
theorem dX8_law_58 : decode cX8_law 58 = .ok (.iload 5, 2) := by decide +kernel
theorem dX8_law_60 : decode cX8_law 60 = .ok (.iload_n 1, 1) := by decide +kernel
theorem dX8_law_61 : decode cX8_law 61 = .ok (.if_icmp .ge 23, 3) := by decide +kernel
theorem dX8_law_84 : decode cX8_law 84 = .ok (.aload_n 0, 1) := by decide +kernel
theorem dX8_law_85 : decode cX8_law 85 = .ok (.invokevirtual 405, 3) := by decide +kernel
theorem dX8_law_88 : decode cX8_law 88 = .ok (.istore 5, 2) := by decide +kernel
theorem dX8_law_90 : decode cX8_law 90 = .ok (.aload_n 0, 1) := by decide +kernel
theorem dX8_law_91 : decode cX8_law 91 = .ok (.aload_n 3, 1) := by decide +kernel
theorem dX8_law_92 : decode cX8_law 92 = .ok (.putfield 40, 3) := by decide +kernel
theorem dX8_law_95 : decode cX8_law 95 = .ok (.aload_n 0, 1) := by decide +kernel
theorem dX8_law_96 : decode cX8_law 96 = .ok (.iload 4, 2) := by decide +kernel
theorem dX8_law_98 : decode cX8_law 98 = .ok (.putfield 218, 3) := by decide +kernel
theorem dX8_law_101 : decode cX8_law 101 = .ok (.aload_n 0, 1) := by decide +kernel
theorem dX8_law_102 : decode cX8_law 102 = .ok (.iconst 0, 1) := by decide +kernel
theorem dX8_law_103 : decode cX8_law 103 = .ok (.putfield 117, 3) := by decide +kernel
theorem dX8_law_106 : decode cX8_law 106 = .ok (.aload_n 0, 1) := by decide +kernel
theorem dX8_law_107 : decode cX8_law 107 = .ok (.iload 5, 2) := by decide +kernel
theorem dX8_law_109 : decode cX8_law 109 = .ok (.i2l, 1) := by decide +kernel
theorem dX8_law_110 : decode cX8_law 110 = .ok (.invokevirtual 284, 3) := by decide +kernel
theorem dX8_law_113 : decode cX8_law 113 = .ok (.aload_n 0, 1) := by decide +kernel
theorem dX8_law_114 : decode cX8_law 114 = .ok (.iload_n 2, 1) := by decide +kernel
theorem dX8_law_115 : decode cX8_law 115 = .ok (.i2l, 1) := by decide +kernel
theorem dX8_law_116 : decode cX8_law 116 = .ok (.invokevirtual 284, 3) := by decide +kernel
theorem dX8_law_119 : decode cX8_law 119 = .ok (.iload 5, 2) := by decide +kernel
theorem dX8_law_121 : decode cX8_law 121 = .ok (.iload_n 2, 1) := by decide +kernel
theorem dX8_law_122 : decode cX8_law 122 = .ok (.isub, 1) := by decide +kernel
theorem dX8_law_123 : decode cX8_law 123 = .ok (.ireturn, 1) := by decide +kernel
theorem dX8_lay_0 : decode cX8_lay 0 = .ok (.iconst 0, 1) := by decide +kernel
theorem dX8_lay_1 : decode cX8_lay 1 = .ok (.istore_n 3, 1) := by decide +kernel
theorem dX8_lay_2 : decode cX8_lay 2 = .ok (.iload_n 3, 1) := by decide +kernel
theorem dX8_lay_3 : decode cX8_lay 3 = .ok (.bipush 27, 2) := by decide +kernel
theorem dX8_lay_5 : decode cX8_lay 5 = .ok (.if_icmp .ge 17, 3) := by decide +kernel
theorem dX8_lay_8 : decode cX8_lay 8 = .ok (.aload_n 1, 1) := by decide +kernel
theorem dX8_lay_9 : decode cX8_lay 9 = .ok (.iload_n 2, 1) := by decide +kernel
theorem dX8_lay_10 : decode cX8_lay 10 = .ok (.iload_n 3, 1) := by decide +kernel
theorem dX8_lay_11 : decode cX8_lay 11 = .ok (.iadd, 1) := by decide +kernel
theorem dX8_lay_12 : decode cX8_lay 12 = .ok (.aload_n 0, 1) := by decide +kernel
theorem dX8_lay_13 : decode cX8_lay 13 = .ok (.iload_n 3, 1) := by decide +kernel
theorem dX8_lay_14 : decode cX8_lay 14 = .ok (.iaload, 1) := by decide +kernel
theorem dX8_lay_15 : decode cX8_lay 15 = .ok (.iastore, 1) := by decide +kernel
theorem dX8_lay_16 : decode cX8_lay 16 = .ok (.iinc 3 1, 3) := by decide +kernel
theorem dX8_lay_19 : decode cX8_lay 19 = .ok (.goto (-17), 3) := by decide +kernel
theorem dX8_lay_22 : decode cX8_lay 22 = .ok (.return_, 1) := by decide +kernel
theorem dX8_layCanBe_0 : decode cX8_layCanBe 0 = .ok (.iconst 0, 1) := by decide +kernel
theorem dX8_layCanBe_1 : decode cX8_layCanBe 1 = .ok (.istore_n 1, 1) := by decide +kernel
theorem dX8_layCanBe_2 : decode cX8_layCanBe 2 = .ok (.iload_n 1, 1) := by decide +kernel
theorem dX8_layCanBe_3 : decode cX8_layCanBe 3 = .ok (.iconst 1, 1) := by decide +kernel
theorem dX8_layCanBe_4 : decode cX8_layCanBe 4 = .ok (.aload_n 0, 1) := by decide +kernel
theorem dX8_layCanBe_5 : decode cX8_layCanBe 5 = .ok (.getfield 120, 3) := by decide +kernel
theorem dX8_layCanBe_8 : decode cX8_layCanBe 8 = .ok (.ishl, 1) := by decide +kernel
theorem dX8_layCanBe_9 : decode cX8_layCanBe 9 = .ok (.if_icmp .ge 75, 3) := by decide +kernel
theorem dX8_layCanBe_12 : decode cX8_layCanBe 12 = .ok (.aload_n 0, 1) := by decide +kernel
theorem dX8_layCanBe_13 : decode cX8_layCanBe 13 = .ok (.iconst (-1), 1) := by decide +kernel
theorem dX8_layCanBe_14 : decode cX8_layCanBe 14 = .ok (.invokevirtual 335, 3) := by decide +kernel
theorem dX8_layCanBe_17 : decode cX8_layCanBe 17 = .ok (.iconst 0, 1) := by decide +kernel
theorem dX8_layCanBe_18 : decode cX8_layCanBe 18 = .ok (.istore_n 2, 1) := by decide +kernel
theorem dX8_layCanBe_19 : decode cX8_layCanBe 19 = .ok (.iload_n 2, 1) := by decide +kernel
theorem dX8_layCanBe_20 : decode cX8_layCanBe 20 = .ok (.aload_n 0, 1) := by decide +kernel
theorem dX8_layCanBe_21 : decode cX8_layCanBe 21 = .ok (.getfield 120, 3) := by decide +kernel
theorem dX8_layCanBe_24 : decode cX8_layCanBe 24 = .ok (.if_icmp .ge 33, 3) := by decide +kernel
theorem dX8_layCanBe_57 : decode cX8_layCanBe 57 = .ok (.aload_n 0, 1) := by decide +kernel
theorem dX8_layCanBe_58 : decode cX8_layCanBe 58 = .ok (.getfield 95, 3) := by decide +kernel
theorem dX8_layCanBe_61 : decode cX8_layCanBe 61 = .ok (.iload_n 1, 1) := by decide +kernel
theorem dX8_layCanBe_62 : decode cX8_layCanBe 62 = .ok (.aload_n 0, 1) := by decide +kernel
theorem dX8_layCanBe_63 : decode cX8_layCanBe 63 = .ok (.iconst 2, 1) := by decide +kernel
theorem dX8_layCanBe_64 : decode cX8_layCanBe 64 = .ok (.invokevirtual 329, 3) := by decide +kernel
theorem dX8_layCanBe_67 : decode cX8_layCanBe 67 = .ok (.ldc 88, 2) := by decide +kernel
theorem dX8_layCanBe_69 : decode cX8_layCanBe 69 = .ok (.if_icmp .ge 7, 3) := by decide +kernel
theorem dX8_layCanBe_76 : decode cX8_layCanBe 76 = .ok (.iconst 0, 1) := by decide +kernel
theorem dX8_layCanBe_77 : decode cX8_layCanBe 77 = .ok (.bastore, 1) := by decide +kernel
theorem dX8_layCanBe_78 : decode cX8_layCanBe 78 = .ok (.iinc 1 1, 3) := by decide +kernel
theorem dX8_layCanBe_81 : decode cX8_layCanBe 81 = .ok (.goto (-79), 3) := by decide +kernel
theorem dX8_layCanBe_84 : decode cX8_layCanBe 84 = .ok (.return_, 1) := by decide +kernel
theorem dX8_layFound_0 : decode cX8_layFound 0 = .ok (.aload_n 0, 1) := by decide +kernel
theorem dX8_layFound_1 : decode cX8_layFound 1 = .ok (.iconst (-1), 1) := by decide +kernel
theorem dX8_layFound_2 : decode cX8_layFound 2 = .ok (.invokevirtual 335, 3) := by decide +kernel
theorem dX8_layFound_5 : decode cX8_layFound 5 = .ok (.iconst 0, 1) := by decide +kernel
theorem dX8_layFound_6 : decode cX8_layFound 6 = .ok (.istore_n 1, 1) := by decide +kernel
theorem dX8_layFound_7 : decode cX8_layFound 7 = .ok (.iload_n 1, 1) := by decide +kernel
theorem dX8_layFound_8 : decode cX8_layFound 8 = .ok (.aload_n 0, 1) := by decide +kernel
theorem dX8_layFound_9 : decode cX8_layFound 9 = .ok (.getfield 362, 3) := by decide +kernel
theorem dX8_layFound_12 : decode cX8_layFound 12 = .ok (.if_icmp .ge 79, 3) := by decide +kernel
theorem dX8_layFound_91 : decode cX8_layFound 91 = .ok (.return_, 1) := by decide +kernel
theorem dX8_layMay_0 : decode cX8_layMay 0 = .ok (.iconst 0, 1) := by decide +kernel
theorem dX8_layMay_1 : decode cX8_layMay 1 = .ok (.istore_n 2, 1) := by decide +kernel
theorem dX8_layMay_2 : decode cX8_layMay 2 = .ok (.iload_n 2, 1) := by decide +kernel
theorem dX8_layMay_3 : decode cX8_layMay 3 = .ok (.aload_n 0, 1) := by decide +kernel
theorem dX8_layMay_4 : decode cX8_layMay 4 = .ok (.getfield 120, 3) := by decide +kernel
theorem dX8_layMay_7 : decode cX8_layMay 7 = .ok (.if_icmp .ge 90, 3) := by decide +kernel
theorem dX8_layMay_97 : decode cX8_layMay 97 = .ok (.return_, 1) := by decide +kernel
theorem dX8_lost_0 : decode cX8_lost 0 = .ok (.aload_n 0, 1) := by decide +kernel
theorem dX8_lost_1 : decode cX8_lost 1 = .ok (.iconst 1, 1) := by decide +kernel
theorem dX8_lost_2 : decode cX8_lost 2 = .ok (.putfield 114, 3) := by decide +kernel
theorem dX8_lost_5 : decode cX8_lost 5 = .ok (.iconst 0, 1) := by decide +kernel
theorem dX8_lost_6 : decode cX8_lost 6 = .ok (.ireturn, 1) := by decide +kernel
theorem dX8_meets_0 : decode cX8_meets 0 = .ok (.aload_n 0, 1) := by decide +kernel
theorem dX8_meets_1 : decode cX8_meets 1 = .ok (.iconst 0, 1) := by decide +kernel
theorem dX8_meets_2 : decode cX8_meets 2 = .ok (.putfield 114, 3) := by decide +kernel
theorem dX8_meets_5 : decode cX8_meets 5 = .ok (.aload_n 0, 1) := by decide +kernel
theorem dX8_meets_6 : decode cX8_meets 6 = .ok (.iload_n 1, 1) := by decide +kernel
theorem dX8_meets_7 : decode cX8_meets 7 = .ok (.iload_n 2, 1) := by decide +kernel
theorem dX8_meets_8 : decode cX8_meets 8 = .ok (.invokevirtual 297, 3) := by decide +kernel
theorem dX8_meets_11 : decode cX8_meets 11 = .ok (.ifCond .eq 13, 3) := by decide +kernel
theorem dX8_meets_24 : decode cX8_meets 24 = .ok (.iconst (-1), 1) := by decide +kernel
theorem dX8_meets_25 : decode cX8_meets 25 = .ok (.ireturn, 1) := by decide +kernel
theorem dX8_mended_0 : decode cX8_mended 0 = .ok (.aload_n 0, 1) := by decide +kernel
theorem dX8_mended_1 : decode cX8_mended 1 = .ok (.iconst 0, 1) := by decide +kernel
theorem dX8_mended_2 : decode cX8_mended 2 = .ok (.putfield 114, 3) := by decide +kernel
theorem dX8_mended_5 : decode cX8_mended 5 = .ok (.aload_n 0, 1) := by decide +kernel
theorem dX8_mended_6 : decode cX8_mended 6 = .ok (.iload_n 1, 1) := by decide +kernel
theorem dX8_mended_7 : decode cX8_mended 7 = .ok (.invokevirtual 127, 3) := by decide +kernel
theorem dX8_mended_10 : decode cX8_mended 10 = .ok (.ifCond .ne 5, 3) := by decide +kernel
theorem dX8_mended_13 : decode cX8_mended 13 = .ok (.iconst (-1), 1) := by decide +kernel
theorem dX8_mended_14 : decode cX8_mended 14 = .ok (.ireturn, 1) := by decide +kernel
theorem dX8_missed_0 : decode cX8_missed 0 = .ok (.aload_n 0, 1) := by decide +kernel
theorem dX8_missed_1 : decode cX8_missed 1 = .ok (.iconst 0, 1) := by decide +kernel
theorem dX8_missed_2 : decode cX8_missed 2 = .ok (.putfield 114, 3) := by decide +kernel
theorem dX8_missed_5 : decode cX8_missed 5 = .ok (.aload_n 0, 1) := by decide +kernel
theorem dX8_missed_6 : decode cX8_missed 6 = .ok (.iload_n 1, 1) := by decide +kernel
theorem dX8_missed_7 : decode cX8_missed 7 = .ok (.invokevirtual 127, 3) := by decide +kernel
theorem dX8_missed_10 : decode cX8_missed 10 = .ok (.ifCond .ne 5, 3) := by decide +kernel
theorem dX8_missed_13 : decode cX8_missed 13 = .ok (.iconst (-1), 1) := by decide +kernel
theorem dX8_missed_14 : decode cX8_missed 14 = .ok (.ireturn, 1) := by decide +kernel
theorem dX8_night_0 : decode cX8_night 0 = .ok (.iconst 1, 1) := by decide +kernel
theorem dX8_night_1 : decode cX8_night 1 = .ok (.aload_n 0, 1) := by decide +kernel
theorem dX8_night_2 : decode cX8_night 2 = .ok (.getfield 13, 3) := by decide +kernel
theorem dX8_night_5 : decode cX8_night 5 = .ok (.ishl, 1) := by decide +kernel
theorem dX8_night_6 : decode cX8_night 6 = .ok (.iconst 1, 1) := by decide +kernel
theorem dX8_night_7 : decode cX8_night 7 = .ok (.isub, 1) := by decide +kernel
theorem dX8_night_8 : decode cX8_night 8 = .ok (.ireturn, 1) := by decide +kernel
theorem dX8_nights_0 : decode cX8_nights 0 = .ok (.aload_n 0, 1) := by decide +kernel
theorem dX8_nights_1 : decode cX8_nights 1 = .ok (.iconst 0, 1) := by decide +kernel
theorem dX8_nights_2 : decode cX8_nights 2 = .ok (.putfield 114, 3) := by decide +kernel
theorem dX8_nights_5 : decode cX8_nights 5 = .ok (.iload_n 1, 1) := by decide +kernel
theorem dX8_nights_6 : decode cX8_nights 6 = .ok (.iconst 0, 1) := by decide +kernel
theorem dX8_nights_7 : decode cX8_nights 7 = .ok (.bipush 30, 2) := by decide +kernel
theorem dX8_nights_9 : decode cX8_nights 9 = .ok (.invokestatic 123, 3) := by decide +kernel
theorem dX8_nights_12 : decode cX8_nights 12 = .ok (.ifCond .ne 5, 3) := by decide +kernel
theorem dX8_nights_15 : decode cX8_nights 15 = .ok (.iconst (-1), 1) := by decide +kernel
theorem dX8_nights_16 : decode cX8_nights 16 = .ok (.ireturn, 1) := by decide +kernel
theorem dX8_nights_17 : decode cX8_nights 17 = .ok (.iload_n 1, 1) := by decide +kernel
theorem dX8_nights_18 : decode cX8_nights 18 = .ok (.ifCond .le 11, 3) := by decide +kernel
theorem dX8_nights_21 : decode cX8_nights 21 = .ok (.aload_n 0, 1) := by decide +kernel
theorem dX8_nights_22 : decode cX8_nights 22 = .ok (.aload_n 0, 1) := by decide +kernel
theorem dX8_nights_23 : decode cX8_nights 23 = .ok (.getfield 9, 3) := by decide +kernel
theorem dX8_nights_26 : decode cX8_nights 26 = .ok (.invokevirtual 253, 3) := by decide +kernel
theorem dX8_nights_29 : decode cX8_nights 29 = .ok (.aload_n 0, 1) := by decide +kernel
theorem dX8_nights_30 : decode cX8_nights 30 = .ok (.getfield 9, 3) := by decide +kernel
theorem dX8_nights_33 : decode cX8_nights 33 = .ok (.bipush 25, 2) := by decide +kernel
theorem dX8_nights_35 : decode cX8_nights 35 = .ok (.iaload, 1) := by decide +kernel
theorem dX8_nights_36 : decode cX8_nights 36 = .ok (.istore_n 2, 1) := by decide +kernel
theorem dX8_nights_37 : decode cX8_nights 37 = .ok (.aload_n 0, 1) := by decide +kernel
theorem dX8_nights_38 : decode cX8_nights 38 = .ok (.getfield 9, 3) := by decide +kernel
theorem dX8_nights_41 : decode cX8_nights 41 = .ok (.bipush 26, 2) := by decide +kernel
theorem dX8_nights_43 : decode cX8_nights 43 = .ok (.iaload, 1) := by decide +kernel
theorem dX8_nights_44 : decode cX8_nights 44 = .ok (.istore_n 3, 1) := by decide +kernel
theorem dX8_nights_45 : decode cX8_nights 45 = .ok (.aload_n 0, 1) := by decide +kernel
theorem dX8_nights_46 : decode cX8_nights 46 = .ok (.aload_n 0, 1) := by decide +kernel
theorem dX8_nights_47 : decode cX8_nights 47 = .ok (.getfield 9, 3) := by decide +kernel
theorem dX8_nights_50 : decode cX8_nights 50 = .ok (.iload_n 1, 1) := by decide +kernel
theorem dX8_nights_51 : decode cX8_nights 51 = .ok (.invokevirtual 280, 3) := by decide +kernel
theorem dX8_nights_54 : decode cX8_nights 54 = .ok (.aload_n 0, 1) := by decide +kernel
theorem dX8_nights_55 : decode cX8_nights 55 = .ok (.iconst 0, 1) := by decide +kernel
theorem dX8_nights_56 : decode cX8_nights 56 = .ok (.putfield 117, 3) := by decide +kernel
theorem dX8_nights_59 : decode cX8_nights 59 = .ok (.aload_n 0, 1) := by decide +kernel
theorem dX8_nights_60 : decode cX8_nights 60 = .ok (.aload_n 0, 1) := by decide +kernel
theorem dX8_nights_61 : decode cX8_nights 61 = .ok (.getfield 9, 3) := by decide +kernel
theorem dX8_nights_64 : decode cX8_nights 64 = .ok (.bipush 26, 2) := by decide +kernel
theorem dX8_nights_66 : decode cX8_nights 66 = .ok (.iaload, 1) := by decide +kernel
theorem dX8_nights_67 : decode cX8_nights 67 = .ok (.iload_n 3, 1) := by decide +kernel
theorem dX8_nights_68 : decode cX8_nights 68 = .ok (.isub, 1) := by decide +kernel
theorem dX8_nights_69 : decode cX8_nights 69 = .ok (.i2l, 1) := by decide +kernel
theorem dX8_nights_70 : decode cX8_nights 70 = .ok (.invokevirtual 284, 3) := by decide +kernel
theorem dX8_nights_73 : decode cX8_nights 73 = .ok (.aload_n 0, 1) := by decide +kernel
theorem dX8_nights_74 : decode cX8_nights 74 = .ok (.aload_n 0, 1) := by decide +kernel
theorem dX8_nights_75 : decode cX8_nights 75 = .ok (.aload_n 0, 1) := by decide +kernel
theorem dX8_nights_76 : decode cX8_nights 76 = .ok (.getfield 9, 3) := by decide +kernel
theorem dX8_nights_79 : decode cX8_nights 79 = .ok (.invokevirtual 288, 3) := by decide +kernel
theorem dX8_nights_82 : decode cX8_nights 82 = .ok (.i2l, 1) := by decide +kernel
theorem dX8_nights_83 : decode cX8_nights 83 = .ok (.invokevirtual 284, 3) := by decide +kernel
theorem dX8_nights_86 : decode cX8_nights 86 = .ok (.aload_n 0, 1) := by decide +kernel
theorem dX8_nights_87 : decode cX8_nights 87 = .ok (.getfield 9, 3) := by decide +kernel
theorem dX8_nights_90 : decode cX8_nights 90 = .ok (.bipush 25, 2) := by decide +kernel
theorem dX8_nights_92 : decode cX8_nights 92 = .ok (.iaload, 1) := by decide +kernel
theorem dX8_nights_93 : decode cX8_nights 93 = .ok (.iload_n 2, 1) := by decide +kernel
theorem dX8_nights_94 : decode cX8_nights 94 = .ok (.isub, 1) := by decide +kernel
theorem dX8_nights_95 : decode cX8_nights 95 = .ok (.ireturn, 1) := by decide +kernel
theorem dX8_otherGets_0 : decode cX8_otherGets 0 = .ok (.iload_n 1, 1) := by decide +kernel
theorem dX8_otherGets_1 : decode cX8_otherGets 1 = .ok (.iload_n 0, 1) := by decide +kernel
theorem dX8_otherGets_2 : decode cX8_otherGets 2 = .ok (.if_icmp .le 9, 3) := by decide +kernel
theorem dX8_otherGets_5 : decode cX8_otherGets 5 = .ok (.iload_n 2, 1) := by decide +kernel
theorem dX8_otherGets_6 : decode cX8_otherGets 6 = .ok (.iload_n 0, 1) := by decide +kernel
theorem dX8_otherGets_7 : decode cX8_otherGets 7 = .ok (.isub, 1) := by decide +kernel
theorem dX8_otherGets_8 : decode cX8_otherGets 8 = .ok (.goto 4, 3) := by decide +kernel
theorem dX8_otherGets_11 : decode cX8_otherGets 11 = .ok (.iconst 0, 1) := by decide +kernel
theorem dX8_otherGets_12 : decode cX8_otherGets 12 = .ok (.ireturn, 1) := by decide +kernel
theorem dX8_paid_0 : decode cX8_paid 0 = .ok (.aload_n 0, 1) := by decide +kernel
theorem dX8_paid_1 : decode cX8_paid 1 = .ok (.iconst 0, 1) := by decide +kernel
theorem dX8_paid_2 : decode cX8_paid 2 = .ok (.putfield 114, 3) := by decide +kernel
theorem dX8_paid_5 : decode cX8_paid 5 = .ok (.aload_n 0, 1) := by decide +kernel
theorem dX8_paid_6 : decode cX8_paid 6 = .ok (.iload_n 1, 1) := by decide +kernel
theorem dX8_paid_7 : decode cX8_paid 7 = .ok (.invokevirtual 127, 3) := by decide +kernel
theorem dX8_paid_10 : decode cX8_paid 10 = .ok (.ifCond .ne 5, 3) := by decide +kernel
theorem dX8_paid_13 : decode cX8_paid 13 = .ok (.iconst (-1), 1) := by decide +kernel
theorem dX8_paid_14 : decode cX8_paid 14 = .ok (.ireturn, 1) := by decide +kernel
theorem dX8_power_0 : decode cX8_power 0 = .ok (.lconst 1, 1) := by decide +kernel
theorem dX8_power_1 : decode cX8_power 1 = .ok (.lstore_n 3, 1) := by decide +kernel
theorem dX8_power_2 : decode cX8_power 2 = .ok (.iconst 0, 1) := by decide +kernel
theorem dX8_power_3 : decode cX8_power 3 = .ok (.istore 5, 2) := by decide +kernel
theorem dX8_power_5 : decode cX8_power 5 = .ok (.iload 5, 2) := by decide +kernel
theorem dX8_power_7 : decode cX8_power 7 = .ok (.iload_n 2, 1) := by decide +kernel
theorem dX8_power_8 : decode cX8_power 8 = .ok (.if_icmp .ge 13, 3) := by decide +kernel
theorem dX8_power_21 : decode cX8_power 21 = .ok (.lload_n 3, 1) := by decide +kernel
theorem dX8_power_22 : decode cX8_power 22 = .ok (.lreturn, 1) := by decide +kernel
theorem dX8_readRule_0 : decode cX8_readRule 0 = .ok (.aload_n 0, 1) := by decide +kernel
theorem dX8_readRule_1 : decode cX8_readRule 1 = .ok (.bipush 40, 2) := by decide +kernel
theorem dX8_readRule_3 : decode cX8_readRule 3 = .ok (.invokevirtual 173, 3) := by decide +kernel
theorem dX8_readRule_6 : decode cX8_readRule 6 = .ok (.aload_n 0, 1) := by decide +kernel
theorem dX8_readRule_7 : decode cX8_readRule 7 = .ok (.iconst 0, 1) := by decide +kernel
theorem dX8_readRule_8 : decode cX8_readRule 8 = .ok (.putfield 211, 3) := by decide +kernel
theorem dX8_readRule_11 : decode cX8_readRule 11 = .ok (.aload_n 0, 1) := by decide +kernel
theorem dX8_readRule_12 : decode cX8_readRule 12 = .ok (.getfield 137, 3) := by decide +kernel
theorem dX8_readRule_15 : decode cX8_readRule 15 = .ok (.ifCond .le 9, 3) := by decide +kernel
theorem dX8_readRule_24 : decode cX8_readRule 24 = .ok (.aload_n 0, 1) := by decide +kernel
theorem dX8_readRule_25 : decode cX8_readRule 25 = .ok (.invokevirtual 179, 3) := by decide +kernel
theorem dX8_readRule_28 : decode cX8_readRule 28 = .ok (.ireturn, 1) := by decide +kernel
theorem dX8_remember_0 : decode cX8_remember 0 = .ok (.aload_n 0, 1) := by decide +kernel
theorem dX8_remember_1 : decode cX8_remember 1 = .ok (.getfield 182, 3) := by decide +kernel
theorem dX8_remember_4 : decode cX8_remember 4 = .ok (.bipush 12, 2) := by decide +kernel
theorem dX8_remember_6 : decode cX8_remember 6 = .ok (.if_icmp .ne 43, 3) := by decide +kernel
theorem dX8_remember_49 : decode cX8_remember 49 = .ok (.aload_n 1, 1) := by decide +kernel
theorem dX8_remember_50 : decode cX8_remember 50 = .ok (.aload_n 0, 1) := by decide +kernel
theorem dX8_remember_51 : decode cX8_remember 51 = .ok (.getfield 49, 3) := by decide +kernel
theorem dX8_remember_54 : decode cX8_remember 54 = .ok (.bipush 27, 2) := by decide +kernel
theorem dX8_remember_56 : decode cX8_remember 56 = .ok (.aload_n 0, 1) := by decide +kernel
theorem dX8_remember_57 : decode cX8_remember 57 = .ok (.getfield 182, 3) := by decide +kernel
theorem dX8_remember_60 : decode cX8_remember 60 = .ok (.imul, 1) := by decide +kernel
theorem dX8_remember_61 : decode cX8_remember 61 = .ok (.invokestatic 249, 3) := by decide +kernel
theorem dX8_remember_64 : decode cX8_remember 64 = .ok (.aload_n 0, 1) := by decide +kernel
theorem dX8_remember_65 : decode cX8_remember 65 = .ok (.dup, 1) := by decide +kernel
theorem dX8_remember_66 : decode cX8_remember 66 = .ok (.getfield 182, 3) := by decide +kernel
theorem dX8_remember_69 : decode cX8_remember 69 = .ok (.iconst 1, 1) := by decide +kernel
theorem dX8_remember_70 : decode cX8_remember 70 = .ok (.iadd, 1) := by decide +kernel
theorem dX8_remember_71 : decode cX8_remember 71 = .ok (.putfield 182, 3) := by decide +kernel
theorem dX8_remember_74 : decode cX8_remember 74 = .ok (.return_, 1) := by decide +kernel
theorem dX8_rests_0 : decode cX8_rests 0 = .ok (.aload_n 0, 1) := by decide +kernel
theorem dX8_rests_1 : decode cX8_rests 1 = .ok (.iconst 0, 1) := by decide +kernel
theorem dX8_rests_2 : decode cX8_rests 2 = .ok (.putfield 114, 3) := by decide +kernel
theorem dX8_rests_5 : decode cX8_rests 5 = .ok (.iload_n 1, 1) := by decide +kernel
theorem dX8_rests_6 : decode cX8_rests 6 = .ok (.iconst 0, 1) := by decide +kernel
theorem dX8_rests_7 : decode cX8_rests 7 = .ok (.bipush 9, 2) := by decide +kernel
theorem dX8_rests_9 : decode cX8_rests 9 = .ok (.invokestatic 123, 3) := by decide +kernel
theorem dX8_rests_12 : decode cX8_rests 12 = .ok (.ifCond .eq 13, 3) := by decide +kernel
theorem dX8_rests_15 : decode cX8_rests 15 = .ok (.iload_n 2, 1) := by decide +kernel
theorem dX8_rests_16 : decode cX8_rests 16 = .ok (.iconst 0, 1) := by decide +kernel
theorem dX8_rests_17 : decode cX8_rests 17 = .ok (.bipush 9, 2) := by decide +kernel
theorem dX8_rests_19 : decode cX8_rests 19 = .ok (.invokestatic 123, 3) := by decide +kernel
theorem dX8_rests_22 : decode cX8_rests 22 = .ok (.ifCond .ne 5, 3) := by decide +kernel
theorem dX8_rests_25 : decode cX8_rests 25 = .ok (.iconst (-1), 1) := by decide +kernel
theorem dX8_rests_26 : decode cX8_rests 26 = .ok (.ireturn, 1) := by decide +kernel
theorem dX8_rests_27 : decode cX8_rests 27 = .ok (.iconst 0, 1) := by decide +kernel
theorem dX8_rests_28 : decode cX8_rests 28 = .ok (.istore_n 3, 1) := by decide +kernel
theorem dX8_rests_29 : decode cX8_rests 29 = .ok (.iconst 0, 1) := by decide +kernel
theorem dX8_rests_30 : decode cX8_rests 30 = .ok (.istore 4, 2) := by decide +kernel
theorem dX8_rests_32 : decode cX8_rests 32 = .ok (.aload_n 0, 1) := by decide +kernel
theorem dX8_rests_33 : decode cX8_rests 33 = .ok (.iconst 0, 1) := by decide +kernel
theorem dX8_rests_34 : decode cX8_rests 34 = .ok (.putfield 117, 3) := by decide +kernel
theorem dX8_rests_37 : decode cX8_rests 37 = .ok (.iconst 0, 1) := by decide +kernel
theorem dX8_rests_38 : decode cX8_rests 38 = .ok (.istore 5, 2) := by decide +kernel
theorem dX8_rests_40 : decode cX8_rests 40 = .ok (.iload 5, 2) := by decide +kernel
theorem dX8_rests_42 : decode cX8_rests 42 = .ok (.bipush 9, 2) := by decide +kernel
theorem dX8_rests_44 : decode cX8_rests 44 = .ok (.if_icmp .gt 78, 3) := by decide +kernel
theorem dX8_rests_47 : decode cX8_rests 47 = .ok (.iconst 0, 1) := by decide +kernel
theorem dX8_rests_48 : decode cX8_rests 48 = .ok (.istore 6, 2) := by decide +kernel
theorem dX8_rests_50 : decode cX8_rests 50 = .ok (.iload 6, 2) := by decide +kernel
theorem dX8_rests_52 : decode cX8_rests 52 = .ok (.bipush 9, 2) := by decide +kernel
theorem dX8_rests_54 : decode cX8_rests 54 = .ok (.if_icmp .gt 62, 3) := by decide +kernel
theorem dX8_rests_57 : decode cX8_rests 57 = .ok (.iload 5, 2) := by decide +kernel
theorem dX8_rests_59 : decode cX8_rests 59 = .ok (.iload 6, 2) := by decide +kernel
theorem dX8_rests_61 : decode cX8_rests 61 = .ok (.iload_n 1, 1) := by decide +kernel
theorem dX8_rests_62 : decode cX8_rests 62 = .ok (.iload_n 2, 1) := by decide +kernel
theorem dX8_rests_63 : decode cX8_rests 63 = .ok (.invokestatic 401, 3) := by decide +kernel
theorem dX8_rests_66 : decode cX8_rests 66 = .ok (.ifCond .ne 6, 3) := by decide +kernel
theorem dX8_rests_69 : decode cX8_rests 69 = .ok (.goto 41, 3) := by decide +kernel
theorem dX8_rests_72 : decode cX8_rests 72 = .ok (.iload_n 3, 1) := by decide +kernel
theorem dX8_rests_73 : decode cX8_rests 73 = .ok (.ifCond .ne 17, 3) := by decide +kernel
theorem dX8_rests_76 : decode cX8_rests 76 = .ok (.aload_n 0, 1) := by decide +kernel
theorem dX8_rests_77 : decode cX8_rests 77 = .ok (.iload 5, 2) := by decide +kernel
theorem dX8_rests_79 : decode cX8_rests 79 = .ok (.i2l, 1) := by decide +kernel
theorem dX8_rests_80 : decode cX8_rests 80 = .ok (.invokevirtual 284, 3) := by decide +kernel
theorem dX8_rests_83 : decode cX8_rests 83 = .ok (.aload_n 0, 1) := by decide +kernel
theorem dX8_rests_84 : decode cX8_rests 84 = .ok (.iload 6, 2) := by decide +kernel
theorem dX8_rests_86 : decode cX8_rests 86 = .ok (.i2l, 1) := by decide +kernel
theorem dX8_rests_87 : decode cX8_rests 87 = .ok (.invokevirtual 284, 3) := by decide +kernel
theorem dX8_rests_90 : decode cX8_rests 90 = .ok (.iinc 3 1, 3) := by decide +kernel
theorem dX8_rests_93 : decode cX8_rests 93 = .ok (.iload 4, 2) := by decide +kernel
theorem dX8_rests_95 : decode cX8_rests 95 = .ok (.iload 5, 2) := by decide +kernel
theorem dX8_rests_97 : decode cX8_rests 97 = .ok (.iload 6, 2) := by decide +kernel
theorem dX8_rests_99 : decode cX8_rests 99 = .ok (.if_icmp .lt 7, 3) := by decide +kernel
theorem dX8_rests_102 : decode cX8_rests 102 = .ok (.iconst 1, 1) := by decide +kernel
theorem dX8_rests_103 : decode cX8_rests 103 = .ok (.goto 4, 3) := by decide +kernel
theorem dX8_rests_106 : decode cX8_rests 106 = .ok (.iconst 0, 1) := by decide +kernel
theorem dX8_rests_107 : decode cX8_rests 107 = .ok (.iadd, 1) := by decide +kernel
theorem dX8_rests_108 : decode cX8_rests 108 = .ok (.istore 4, 2) := by decide +kernel
theorem dX8_rests_110 : decode cX8_rests 110 = .ok (.iinc 6 1, 3) := by decide +kernel
theorem dX8_rests_113 : decode cX8_rests 113 = .ok (.goto (-63), 3) := by decide +kernel
theorem dX8_rests_116 : decode cX8_rests 116 = .ok (.iinc 5 1, 3) := by decide +kernel
theorem dX8_rests_119 : decode cX8_rests 119 = .ok (.goto (-79), 3) := by decide +kernel
theorem dX8_rests_122 : decode cX8_rests 122 = .ok (.iload_n 3, 1) := by decide +kernel
theorem dX8_rests_123 : decode cX8_rests 123 = .ok (.ifCond .le 10, 3) := by decide +kernel
theorem dX8_rests_126 : decode cX8_rests 126 = .ok (.aload_n 0, 1) := by decide +kernel
theorem dX8_rests_127 : decode cX8_rests 127 = .ok (.iload 4, 2) := by decide +kernel
theorem dX8_rests_129 : decode cX8_rests 129 = .ok (.i2l, 1) := by decide +kernel
theorem dX8_rests_130 : decode cX8_rests 130 = .ok (.invokevirtual 284, 3) := by decide +kernel
theorem dX8_rests_133 : decode cX8_rests 133 = .ok (.iload_n 3, 1) := by decide +kernel
theorem dX8_rests_134 : decode cX8_rests 134 = .ok (.ireturn, 1) := by decide +kernel
theorem dX8_rider_0 : decode cX8_rider 0 = .ok (.aload_n 0, 1) := by decide +kernel
theorem dX8_rider_1 : decode cX8_rider 1 = .ok (.iconst 0, 1) := by decide +kernel
theorem dX8_rider_2 : decode cX8_rider 2 = .ok (.putfield 114, 3) := by decide +kernel
theorem dX8_rider_5 : decode cX8_rider 5 = .ok (.aload_n 0, 1) := by decide +kernel
theorem dX8_rider_6 : decode cX8_rider 6 = .ok (.iload_n 1, 1) := by decide +kernel
theorem dX8_rider_7 : decode cX8_rider 7 = .ok (.invokevirtual 127, 3) := by decide +kernel
theorem dX8_rider_10 : decode cX8_rider 10 = .ok (.ifCond .eq 12, 3) := by decide +kernel
theorem dX8_rider_22 : decode cX8_rider 22 = .ok (.aload_n 0, 1) := by decide +kernel
theorem dX8_rider_23 : decode cX8_rider 23 = .ok (.invokevirtual 235, 3) := by decide +kernel
theorem dX8_rider_26 : decode cX8_rider 26 = .ok (.ireturn, 1) := by decide +kernel
theorem dX8_riders_0 : decode cX8_riders 0 = .ok (.aload_n 0, 1) := by decide +kernel
theorem dX8_riders_1 : decode cX8_riders 1 = .ok (.iconst 0, 1) := by decide +kernel
theorem dX8_riders_2 : decode cX8_riders 2 = .ok (.putfield 114, 3) := by decide +kernel
theorem dX8_riders_5 : decode cX8_riders 5 = .ok (.aload_n 0, 1) := by decide +kernel
theorem dX8_riders_6 : decode cX8_riders 6 = .ok (.bipush 76, 2) := by decide +kernel
theorem dX8_riders_8 : decode cX8_riders 8 = .ok (.invokevirtual 173, 3) := by decide +kernel
theorem dX8_riders_11 : decode cX8_riders 11 = .ok (.aload_n 0, 1) := by decide +kernel
theorem dX8_riders_12 : decode cX8_riders 12 = .ok (.getfield 137, 3) := by decide +kernel
theorem dX8_riders_15 : decode cX8_riders 15 = .ok (.ifCond .ne 5, 3) := by decide +kernel
theorem dX8_riders_18 : decode cX8_riders 18 = .ok (.iconst 0, 1) := by decide +kernel
theorem dX8_riders_19 : decode cX8_riders 19 = .ok (.ireturn, 1) := by decide +kernel
theorem dX8_rota_0 : decode cX8_rota 0 = .ok (.aload_n 0, 1) := by decide +kernel
theorem dX8_rota_1 : decode cX8_rota 1 = .ok (.iconst 0, 1) := by decide +kernel
theorem dX8_rota_2 : decode cX8_rota 2 = .ok (.putfield 114, 3) := by decide +kernel
theorem dX8_rota_5 : decode cX8_rota 5 = .ok (.aload_n 0, 1) := by decide +kernel
theorem dX8_rota_6 : decode cX8_rota 6 = .ok (.aload_n 0, 1) := by decide +kernel
theorem dX8_rota_7 : decode cX8_rota 7 = .ok (.getfield 13, 3) := by decide +kernel
theorem dX8_rota_10 : decode cX8_rota 10 = .ok (.invokevirtual 173, 3) := by decide +kernel
theorem dX8_rota_13 : decode cX8_rota 13 = .ok (.iconst 0, 1) := by decide +kernel
theorem dX8_rota_14 : decode cX8_rota 14 = .ok (.istore_n 1, 1) := by decide +kernel
theorem dX8_rota_15 : decode cX8_rota 15 = .ok (.iload_n 1, 1) := by decide +kernel
theorem dX8_rota_16 : decode cX8_rota 16 = .ok (.aload_n 0, 1) := by decide +kernel
theorem dX8_rota_17 : decode cX8_rota 17 = .ok (.getfield 13, 3) := by decide +kernel
theorem dX8_rota_20 : decode cX8_rota 20 = .ok (.if_icmp .ge 82, 3) := by decide +kernel
theorem dX8_rota_23 : decode cX8_rota 23 = .ok (.aload_n 0, 1) := by decide +kernel
theorem dX8_rota_24 : decode cX8_rota 24 = .ok (.invokevirtual 153, 3) := by decide +kernel
theorem dX8_rota_27 : decode cX8_rota 27 = .ok (.ifCond .eq 75, 3) := by decide +kernel
theorem dX8_rota_30 : decode cX8_rota 30 = .ok (.aload_n 0, 1) := by decide +kernel
theorem dX8_rota_31 : decode cX8_rota 31 = .ok (.invokevirtual 157, 3) := by decide +kernel
theorem dX8_rota_34 : decode cX8_rota 34 = .ok (.bipush 45, 2) := by decide +kernel
theorem dX8_rota_36 : decode cX8_rota 36 = .ok (.if_icmp .ne 7, 3) := by decide +kernel
theorem dX8_rota_43 : decode cX8_rota 43 = .ok (.aload_n 0, 1) := by decide +kernel
theorem dX8_rota_44 : decode cX8_rota 44 = .ok (.invokevirtual 157, 3) := by decide +kernel
theorem dX8_rota_47 : decode cX8_rota 47 = .ok (.bipush 48, 2) := by decide +kernel
theorem dX8_rota_49 : decode cX8_rota 49 = .ok (.isub, 1) := by decide +kernel
theorem dX8_rota_50 : decode cX8_rota 50 = .ok (.istore_n 2, 1) := by decide +kernel
theorem dX8_rota_51 : decode cX8_rota 51 = .ok (.aload_n 0, 1) := by decide +kernel
theorem dX8_rota_52 : decode cX8_rota 52 = .ok (.invokevirtual 157, 3) := by decide +kernel
theorem dX8_rota_55 : decode cX8_rota 55 = .ok (.bipush 45, 2) := by decide +kernel
theorem dX8_rota_57 : decode cX8_rota 57 = .ok (.if_icmp .eq 22, 3) := by decide +kernel
theorem dX8_rota_60 : decode cX8_rota 60 = .ok (.aload_n 0, 1) := by decide +kernel
theorem dX8_rota_61 : decode cX8_rota 61 = .ok (.iload_n 2, 1) := by decide +kernel
theorem dX8_rota_62 : decode cX8_rota 62 = .ok (.invokevirtual 127, 3) := by decide +kernel
theorem dX8_rota_65 : decode cX8_rota 65 = .ok (.ifCond .ne 14, 3) := by decide +kernel
theorem dX8_rota_68 : decode cX8_rota 68 = .ok (.aload_n 0, 1) := by decide +kernel
theorem dX8_rota_69 : decode cX8_rota 69 = .ok (.aload_n 0, 1) := by decide +kernel
theorem dX8_rota_70 : decode cX8_rota 70 = .ok (.getfield 143, 3) := by decide +kernel
theorem dX8_rota_73 : decode cX8_rota 73 = .ok (.invokevirtual 165, 3) := by decide +kernel
theorem dX8_rota_76 : decode cX8_rota 76 = .ok (.goto 20, 3) := by decide +kernel
theorem dX8_rota_96 : decode cX8_rota 96 = .ok (.iinc 1 1, 3) := by decide +kernel
theorem dX8_rota_99 : decode cX8_rota 99 = .ok (.goto (-84), 3) := by decide +kernel
theorem dX8_rota_102 : decode cX8_rota 102 = .ok (.aload_n 0, 1) := by decide +kernel
theorem dX8_rota_103 : decode cX8_rota 103 = .ok (.invokevirtual 179, 3) := by decide +kernel
theorem dX8_rota_106 : decode cX8_rota 106 = .ok (.ifCond .ne 10, 3) := by decide +kernel
theorem dX8_rota_109 : decode cX8_rota 109 = .ok (.iconst (-1), 1) := by decide +kernel
theorem dX8_rota_110 : decode cX8_rota 110 = .ok (.aload_n 0, 1) := by decide +kernel
theorem dX8_rota_111 : decode cX8_rota 111 = .ok (.getfield 146, 3) := by decide +kernel
theorem dX8_rota_114 : decode cX8_rota 114 = .ok (.isub, 1) := by decide +kernel
theorem dX8_rota_115 : decode cX8_rota 115 = .ok (.ireturn, 1) := by decide +kernel
theorem dX8_rotas_0 : decode cX8_rotas 0 = .ok (.aload_n 0, 1) := by decide +kernel
theorem dX8_rotas_1 : decode cX8_rotas 1 = .ok (.iconst 0, 1) := by decide +kernel
theorem dX8_rotas_2 : decode cX8_rotas 2 = .ok (.putfield 114, 3) := by decide +kernel
theorem dX8_rotas_5 : decode cX8_rotas 5 = .ok (.aload_n 0, 1) := by decide +kernel
theorem dX8_rotas_6 : decode cX8_rotas 6 = .ok (.iconst (-1), 1) := by decide +kernel
theorem dX8_rotas_7 : decode cX8_rotas 7 = .ok (.invokevirtual 335, 3) := by decide +kernel
theorem dX8_rotas_10 : decode cX8_rotas 10 = .ok (.aload_n 0, 1) := by decide +kernel
theorem dX8_rotas_11 : decode cX8_rotas 11 = .ok (.invokevirtual 353, 3) := by decide +kernel
theorem dX8_rotas_14 : decode cX8_rotas 14 = .ok (.ireturn, 1) := by decide +kernel
theorem dX8_row_0 : decode cX8_row 0 = .ok (.aload_n 0, 1) := by decide +kernel
theorem dX8_row_1 : decode cX8_row 1 = .ok (.iconst 0, 1) := by decide +kernel
theorem dX8_row_2 : decode cX8_row 2 = .ok (.putfield 114, 3) := by decide +kernel
theorem dX8_row_5 : decode cX8_row 5 = .ok (.iload_n 1, 1) := by decide +kernel
theorem dX8_row_6 : decode cX8_row 6 = .ok (.iconst 0, 1) := by decide +kernel
theorem dX8_row_7 : decode cX8_row 7 = .ok (.aload_n 0, 1) := by decide +kernel
theorem dX8_row_8 : decode cX8_row 8 = .ok (.getfield 117, 3) := by decide +kernel
theorem dX8_row_11 : decode cX8_row 11 = .ok (.iconst 1, 1) := by decide +kernel
theorem dX8_row_12 : decode cX8_row 12 = .ok (.isub, 1) := by decide +kernel
theorem dX8_row_13 : decode cX8_row 13 = .ok (.invokestatic 123, 3) := by decide +kernel
theorem dX8_row_16 : decode cX8_row 16 = .ok (.ifCond .eq 12, 3) := by decide +kernel
theorem dX8_row_28 : decode cX8_row 28 = .ok (.aload_n 0, 1) := by decide +kernel
theorem dX8_row_29 : decode cX8_row 29 = .ok (.invokevirtual 235, 3) := by decide +kernel
theorem dX8_row_32 : decode cX8_row 32 = .ok (.i2l, 1) := by decide +kernel
theorem dX8_row_33 : decode cX8_row 33 = .ok (.lreturn, 1) := by decide +kernel
theorem dX8_rule_0 : decode cX8_rule 0 = .ok (.aload_n 0, 1) := by decide +kernel
theorem dX8_rule_1 : decode cX8_rule 1 = .ok (.iconst 0, 1) := by decide +kernel
theorem dX8_rule_2 : decode cX8_rule 2 = .ok (.putfield 114, 3) := by decide +kernel
theorem dX8_rule_5 : decode cX8_rule 5 = .ok (.aload_n 0, 1) := by decide +kernel
theorem dX8_rule_6 : decode cX8_rule 6 = .ok (.getfield 131, 3) := by decide +kernel
theorem dX8_rule_9 : decode cX8_rule 9 = .ok (.istore_n 1, 1) := by decide +kernel
theorem dX8_rule_10 : decode cX8_rule 10 = .ok (.aload_n 0, 1) := by decide +kernel
theorem dX8_rule_11 : decode cX8_rule 11 = .ok (.invokevirtual 215, 3) := by decide +kernel
theorem dX8_rule_14 : decode cX8_rule 14 = .ok (.ifCond .ne 10, 3) := by decide +kernel
theorem dX8_rule_24 : decode cX8_rule 24 = .ok (.iconst 0, 1) := by decide +kernel
theorem dX8_rule_25 : decode cX8_rule 25 = .ok (.istore_n 2, 1) := by decide +kernel
theorem dX8_rule_26 : decode cX8_rule 26 = .ok (.iload_n 2, 1) := by decide +kernel
theorem dX8_rule_27 : decode cX8_rule 27 = .ok (.iload_n 1, 1) := by decide +kernel
theorem dX8_rule_28 : decode cX8_rule 28 = .ok (.if_icmp .ge 21, 3) := by decide +kernel
theorem dX8_rule_49 : decode cX8_rule 49 = .ok (.aload_n 0, 1) := by decide +kernel
theorem dX8_rule_50 : decode cX8_rule 50 = .ok (.iload_n 1, 1) := by decide +kernel
theorem dX8_rule_51 : decode cX8_rule 51 = .ok (.putfield 218, 3) := by decide +kernel
theorem dX8_rule_54 : decode cX8_rule 54 = .ok (.iconst 0, 1) := by decide +kernel
theorem dX8_rule_55 : decode cX8_rule 55 = .ok (.ireturn, 1) := by decide +kernel
theorem dX8_set_0 : decode cX8_set 0 = .ok (.aload_n 0, 1) := by decide +kernel
theorem dX8_set_1 : decode cX8_set 1 = .ok (.iconst 0, 1) := by decide +kernel
theorem dX8_set_2 : decode cX8_set 2 = .ok (.putfield 114, 3) := by decide +kernel
theorem dX8_set_5 : decode cX8_set 5 = .ok (.iload_n 1, 1) := by decide +kernel
theorem dX8_set_6 : decode cX8_set 6 = .ok (.ifCond .ne 16, 3) := by decide +kernel
theorem dX8_set_9 : decode cX8_set 9 = .ok (.iload_n 2, 1) := by decide +kernel
theorem dX8_set_10 : decode cX8_set 10 = .ok (.iconst 1, 1) := by decide +kernel
theorem dX8_set_11 : decode cX8_set 11 = .ok (.bipush 8, 2) := by decide +kernel
theorem dX8_set_13 : decode cX8_set 13 = .ok (.invokestatic 123, 3) := by decide +kernel
theorem dX8_set_16 : decode cX8_set 16 = .ok (.ifCond .ne 23, 3) := by decide +kernel
theorem dX8_set_19 : decode cX8_set 19 = .ok (.goto 18, 3) := by decide +kernel
theorem dX8_set_22 : decode cX8_set 22 = .ok (.iload_n 1, 1) := by decide +kernel
theorem dX8_set_23 : decode cX8_set 23 = .ok (.iconst 1, 1) := by decide +kernel
theorem dX8_set_24 : decode cX8_set 24 = .ok (.if_icmp .ne 13, 3) := by decide +kernel
theorem dX8_set_27 : decode cX8_set 27 = .ok (.iload_n 2, 1) := by decide +kernel
theorem dX8_set_28 : decode cX8_set 28 = .ok (.iconst 0, 1) := by decide +kernel
theorem dX8_set_29 : decode cX8_set 29 = .ok (.bipush 9, 2) := by decide +kernel
theorem dX8_set_31 : decode cX8_set 31 = .ok (.invokestatic 123, 3) := by decide +kernel
theorem dX8_set_34 : decode cX8_set 34 = .ok (.ifCond .ne 5, 3) := by decide +kernel
theorem dX8_set_37 : decode cX8_set 37 = .ok (.iconst (-1), 1) := by decide +kernel
theorem dX8_set_38 : decode cX8_set 38 = .ok (.ireturn, 1) := by decide +kernel
theorem dX8_set_39 : decode cX8_set 39 = .ok (.iload_n 1, 1) := by decide +kernel
theorem dX8_set_40 : decode cX8_set 40 = .ok (.ifCond .ne 10, 3) := by decide +kernel
theorem dX8_set_43 : decode cX8_set 43 = .ok (.aload_n 0, 1) := by decide +kernel
theorem dX8_set_44 : decode cX8_set 44 = .ok (.getfield 13, 3) := by decide +kernel
theorem dX8_set_47 : decode cX8_set 47 = .ok (.goto 7, 3) := by decide +kernel
theorem dX8_set_50 : decode cX8_set 50 = .ok (.aload_n 0, 1) := by decide +kernel
theorem dX8_set_51 : decode cX8_set 51 = .ok (.getfield 17, 3) := by decide +kernel
theorem dX8_set_54 : decode cX8_set 54 = .ok (.istore_n 3, 1) := by decide +kernel
theorem dX8_set_55 : decode cX8_set 55 = .ok (.iload_n 1, 1) := by decide +kernel
theorem dX8_set_56 : decode cX8_set 56 = .ok (.ifCond .ne 11, 3) := by decide +kernel
theorem dX8_set_59 : decode cX8_set 59 = .ok (.aload_n 0, 1) := by decide +kernel
theorem dX8_set_60 : decode cX8_set 60 = .ok (.iload_n 2, 1) := by decide +kernel
theorem dX8_set_61 : decode cX8_set 61 = .ok (.putfield 13, 3) := by decide +kernel
theorem dX8_set_64 : decode cX8_set 64 = .ok (.goto 8, 3) := by decide +kernel
theorem dX8_set_67 : decode cX8_set 67 = .ok (.aload_n 0, 1) := by decide +kernel
theorem dX8_set_68 : decode cX8_set 68 = .ok (.iload_n 2, 1) := by decide +kernel
theorem dX8_set_69 : decode cX8_set 69 = .ok (.putfield 17, 3) := by decide +kernel
theorem dX8_set_72 : decode cX8_set 72 = .ok (.iload_n 3, 1) := by decide +kernel
theorem dX8_set_73 : decode cX8_set 73 = .ok (.ireturn, 1) := by decide +kernel
theorem dX8_shared_0 : decode cX8_shared 0 = .ok (.aload_n 0, 1) := by decide +kernel
theorem dX8_shared_1 : decode cX8_shared 1 = .ok (.iconst 0, 1) := by decide +kernel
theorem dX8_shared_2 : decode cX8_shared 2 = .ok (.putfield 114, 3) := by decide +kernel
theorem dX8_shared_5 : decode cX8_shared 5 = .ok (.aload_n 0, 1) := by decide +kernel
theorem dX8_shared_6 : decode cX8_shared 6 = .ok (.iload_n 1, 1) := by decide +kernel
theorem dX8_shared_7 : decode cX8_shared 7 = .ok (.iload_n 2, 1) := by decide +kernel
theorem dX8_shared_8 : decode cX8_shared 8 = .ok (.invokevirtual 297, 3) := by decide +kernel
theorem dX8_shared_11 : decode cX8_shared 11 = .ok (.ifCond .ne 5, 3) := by decide +kernel
theorem dX8_shared_14 : decode cX8_shared 14 = .ok (.iconst (-1), 1) := by decide +kernel
theorem dX8_shared_15 : decode cX8_shared 15 = .ok (.ireturn, 1) := by decide +kernel
theorem dX8_sheet_0 : decode cX8_sheet 0 = .ok (.aload_n 0, 1) := by decide +kernel
theorem dX8_sheet_1 : decode cX8_sheet 1 = .ok (.iconst 0, 1) := by decide +kernel
theorem dX8_sheet_2 : decode cX8_sheet 2 = .ok (.putfield 114, 3) := by decide +kernel
theorem dX8_sheet_5 : decode cX8_sheet 5 = .ok (.iload_n 1, 1) := by decide +kernel
theorem dX8_sheet_6 : decode cX8_sheet 6 = .ok (.iconst 0, 1) := by decide +kernel
theorem dX8_sheet_7 : decode cX8_sheet 7 = .ok (.iconst 3, 1) := by decide +kernel
theorem dX8_sheet_8 : decode cX8_sheet 8 = .ok (.invokestatic 123, 3) := by decide +kernel
theorem dX8_sheet_11 : decode cX8_sheet 11 = .ok (.ifCond .eq 9, 3) := by decide +kernel
theorem dX8_sheet_14 : decode cX8_sheet 14 = .ok (.iload_n 2, 1) := by decide +kernel
theorem dX8_sheet_15 : decode cX8_sheet 15 = .ok (.bipush 8, 2) := by decide +kernel
theorem dX8_sheet_17 : decode cX8_sheet 17 = .ok (.if_icmp .le 5, 3) := by decide +kernel
theorem dX8_sheet_20 : decode cX8_sheet 20 = .ok (.iconst (-1), 1) := by decide +kernel
theorem dX8_sheet_21 : decode cX8_sheet 21 = .ok (.ireturn, 1) := by decide +kernel
theorem dX8_sheet_22 : decode cX8_sheet 22 = .ok (.iload_n 1, 1) := by decide +kernel
theorem dX8_sheet_23 : decode cX8_sheet 23 = .ok (.iconst 3, 1) := by decide +kernel
theorem dX8_sheet_24 : decode cX8_sheet 24 = .ok (.if_icmp .ge 10, 3) := by decide +kernel
theorem dX8_sheet_27 : decode cX8_sheet 27 = .ok (.iload_n 2, 1) := by decide +kernel
theorem dX8_sheet_28 : decode cX8_sheet 28 = .ok (.ifCond .ge 6, 3) := by decide +kernel
theorem dX8_sheet_31 : decode cX8_sheet 31 = .ok (.bipush (-2), 2) := by decide +kernel
theorem dX8_sheet_33 : decode cX8_sheet 33 = .ok (.ireturn, 1) := by decide +kernel
theorem dX8_sheet_34 : decode cX8_sheet 34 = .ok (.iconst 0, 1) := by decide +kernel
theorem dX8_sheet_35 : decode cX8_sheet 35 = .ok (.istore 5, 2) := by decide +kernel
theorem dX8_sheet_37 : decode cX8_sheet 37 = .ok (.iload_n 3, 1) := by decide +kernel
theorem dX8_sheet_38 : decode cX8_sheet 38 = .ok (.istore 6, 2) := by decide +kernel
theorem dX8_sheet_40 : decode cX8_sheet 40 = .ok (.iconst 0, 1) := by decide +kernel
theorem dX8_sheet_41 : decode cX8_sheet 41 = .ok (.istore 7, 2) := by decide +kernel
theorem dX8_sheet_43 : decode cX8_sheet 43 = .ok (.iload 7, 2) := by decide +kernel
theorem dX8_sheet_45 : decode cX8_sheet 45 = .ok (.aload_n 0, 1) := by decide +kernel
theorem dX8_sheet_46 : decode cX8_sheet 46 = .ok (.getfield 120, 3) := by decide +kernel
theorem dX8_sheet_49 : decode cX8_sheet 49 = .ok (.if_icmp .ge 92, 3) := by decide +kernel
theorem dX8_sheet_141 : decode cX8_sheet 141 = .ok (.iload_n 1, 1) := by decide +kernel
theorem dX8_sheet_142 : decode cX8_sheet 142 = .ok (.iconst 3, 1) := by decide +kernel
theorem dX8_sheet_143 : decode cX8_sheet 143 = .ok (.if_icmp .ne 8, 3) := by decide +kernel
theorem dX8_sheet_146 : decode cX8_sheet 146 = .ok (.bipush (-3), 2) := by decide +kernel
theorem dX8_sheet_148 : decode cX8_sheet 148 = .ok (.goto 5, 3) := by decide +kernel
theorem dX8_sheet_151 : decode cX8_sheet 151 = .ok (.iload 5, 2) := by decide +kernel
theorem dX8_sheet_153 : decode cX8_sheet 153 = .ok (.ireturn, 1) := by decide +kernel
theorem dX8_sign_0 : decode cX8_sign 0 = .ok (.aload_n 0, 1) := by decide +kernel
theorem dX8_sign_1 : decode cX8_sign 1 = .ok (.iconst 0, 1) := by decide +kernel
theorem dX8_sign_2 : decode cX8_sign 2 = .ok (.putfield 114, 3) := by decide +kernel
theorem dX8_sign_5 : decode cX8_sign 5 = .ok (.aload_n 0, 1) := by decide +kernel
theorem dX8_sign_6 : decode cX8_sign 6 = .ok (.getfield 131, 3) := by decide +kernel
theorem dX8_sign_9 : decode cX8_sign 9 = .ok (.iconst 4, 1) := by decide +kernel
theorem dX8_sign_10 : decode cX8_sign 10 = .ok (.iadd, 1) := by decide +kernel
theorem dX8_sign_11 : decode cX8_sign 11 = .ok (.bipush 80, 2) := by decide +kernel
theorem dX8_sign_13 : decode cX8_sign 13 = .ok (.if_icmp .le 5, 3) := by decide +kernel
theorem dX8_sign_18 : decode cX8_sign 18 = .ok (.iconst 3, 1) := by decide +kernel
theorem dX8_sign_19 : decode cX8_sign 19 = .ok (.istore_n 2, 1) := by decide +kernel
theorem dX8_sign_20 : decode cX8_sign 20 = .ok (.iload_n 2, 1) := by decide +kernel
theorem dX8_sign_21 : decode cX8_sign 21 = .ok (.ifCond .lt 32, 3) := by decide +kernel
theorem dX8_sign_24 : decode cX8_sign 24 = .ok (.aload_n 0, 1) := by decide +kernel
theorem dX8_sign_25 : decode cX8_sign 25 = .ok (.getfield 29, 3) := by decide +kernel
theorem dX8_sign_28 : decode cX8_sign 28 = .ok (.aload_n 0, 1) := by decide +kernel
theorem dX8_sign_29 : decode cX8_sign 29 = .ok (.dup, 1) := by decide +kernel
theorem dX8_sign_30 : decode cX8_sign 30 = .ok (.getfield 131, 3) := by decide +kernel
theorem dX8_sign_33 : decode cX8_sign 33 = .ok (.dup_x1, 1) := by decide +kernel
theorem dX8_sign_34 : decode cX8_sign 34 = .ok (.iconst 1, 1) := by decide +kernel
theorem dX8_sign_35 : decode cX8_sign 35 = .ok (.iadd, 1) := by decide +kernel
theorem dX8_sign_36 : decode cX8_sign 36 = .ok (.putfield 131, 3) := by decide +kernel
theorem dX8_sign_39 : decode cX8_sign 39 = .ok (.iload_n 1, 1) := by decide +kernel
theorem dX8_sign_40 : decode cX8_sign 40 = .ok (.bipush 8, 2) := by decide +kernel
theorem dX8_sign_42 : decode cX8_sign 42 = .ok (.iload_n 2, 1) := by decide +kernel
theorem dX8_sign_43 : decode cX8_sign 43 = .ok (.imul, 1) := by decide +kernel
theorem dX8_sign_44 : decode cX8_sign 44 = .ok (.ishr, 1) := by decide +kernel
theorem dX8_sign_45 : decode cX8_sign 45 = .ok (.i2b, 1) := by decide +kernel
theorem dX8_sign_46 : decode cX8_sign 46 = .ok (.bastore, 1) := by decide +kernel
theorem dX8_sign_47 : decode cX8_sign 47 = .ok (.iinc 2 (-1), 3) := by decide +kernel
theorem dX8_sign_50 : decode cX8_sign 50 = .ok (.goto (-30), 3) := by decide +kernel
theorem dX8_sign_53 : decode cX8_sign 53 = .ok (.aload_n 0, 1) := by decide +kernel
theorem dX8_sign_54 : decode cX8_sign 54 = .ok (.getfield 131, 3) := by decide +kernel
theorem dX8_sign_57 : decode cX8_sign 57 = .ok (.ireturn, 1) := by decide +kernel
theorem dX8_smoothest_0 : decode cX8_smoothest 0 = .ok (.aload_n 0, 1) := by decide +kernel
theorem dX8_smoothest_1 : decode cX8_smoothest 1 = .ok (.iconst 0, 1) := by decide +kernel
theorem dX8_smoothest_2 : decode cX8_smoothest 2 = .ok (.putfield 114, 3) := by decide +kernel
theorem dX8_smoothest_5 : decode cX8_smoothest 5 = .ok (.aload_n 0, 1) := by decide +kernel
theorem dX8_smoothest_6 : decode cX8_smoothest 6 = .ok (.iconst (-1), 1) := by decide +kernel
theorem dX8_smoothest_7 : decode cX8_smoothest 7 = .ok (.invokevirtual 335, 3) := by decide +kernel
theorem dX8_smoothest_10 : decode cX8_smoothest 10 = .ok (.aload_n 0, 1) := by decide +kernel
theorem dX8_smoothest_11 : decode cX8_smoothest 11 = .ok (.iconst 2, 1) := by decide +kernel
theorem dX8_smoothest_12 : decode cX8_smoothest 12 = .ok (.invokevirtual 329, 3) := by decide +kernel
theorem dX8_smoothest_15 : decode cX8_smoothest 15 = .ok (.ldc 88, 2) := by decide +kernel
theorem dX8_smoothest_17 : decode cX8_smoothest 17 = .ok (.if_icmp .ne 6, 3) := by decide +kernel
theorem dX8_smoothest_20 : decode cX8_smoothest 20 = .ok (.bipush (-2), 2) := by decide +kernel
theorem dX8_smoothest_22 : decode cX8_smoothest 22 = .ok (.ireturn, 1) := by decide +kernel
theorem dX8_solve_0 : decode cX8_solve 0 = .ok (.iconst 0, 1) := by decide +kernel
theorem dX8_solve_1 : decode cX8_solve 1 = .ok (.istore_n 2, 1) := by decide +kernel
theorem dX8_solve_2 : decode cX8_solve 2 = .ok (.iload_n 2, 1) := by decide +kernel
theorem dX8_solve_3 : decode cX8_solve 3 = .ok (.aload_n 0, 1) := by decide +kernel
theorem dX8_solve_4 : decode cX8_solve 4 = .ok (.invokevirtual 307, 3) := by decide +kernel
theorem dX8_solve_7 : decode cX8_solve 7 = .ok (.if_icmp .gt 33, 3) := by decide +kernel
theorem dX8_solve_10 : decode cX8_solve 10 = .ok (.aload_n 0, 1) := by decide +kernel
theorem dX8_solve_11 : decode cX8_solve 11 = .ok (.getfield 82, 3) := by decide +kernel
theorem dX8_solve_14 : decode cX8_solve 14 = .ok (.aload_n 0, 1) := by decide +kernel
theorem dX8_solve_15 : decode cX8_solve 15 = .ok (.getfield 120, 3) := by decide +kernel
theorem dX8_solve_18 : decode cX8_solve 18 = .ok (.bipush 8, 2) := by decide +kernel
theorem dX8_solve_20 : decode cX8_solve 20 = .ok (.ishl, 1) := by decide +kernel
theorem dX8_solve_21 : decode cX8_solve 21 = .ok (.iload_n 2, 1) := by decide +kernel
theorem dX8_solve_22 : decode cX8_solve 22 = .ok (.ior, 1) := by decide +kernel
theorem dX8_solve_23 : decode cX8_solve 23 = .ok (.iload_n 2, 1) := by decide +kernel
theorem dX8_solve_24 : decode cX8_solve 24 = .ok (.ifCond .ne 7, 3) := by decide +kernel
theorem dX8_solve_27 : decode cX8_solve 27 = .ok (.iconst 0, 1) := by decide +kernel
theorem dX8_solve_28 : decode cX8_solve 28 = .ok (.goto 5, 3) := by decide +kernel
theorem dX8_solve_31 : decode cX8_solve 31 = .ok (.ldc 88, 2) := by decide +kernel
theorem dX8_solve_33 : decode cX8_solve 33 = .ok (.iastore, 1) := by decide +kernel
theorem dX8_solve_34 : decode cX8_solve 34 = .ok (.iinc 2 1, 3) := by decide +kernel
theorem dX8_solve_37 : decode cX8_solve 37 = .ok (.goto (-35), 3) := by decide +kernel
theorem dX8_solve_40 : decode cX8_solve 40 = .ok (.aload_n 0, 1) := by decide +kernel
theorem dX8_solve_41 : decode cX8_solve 41 = .ok (.getfield 120, 3) := by decide +kernel
theorem dX8_solve_44 : decode cX8_solve 44 = .ok (.iconst 1, 1) := by decide +kernel
theorem dX8_solve_45 : decode cX8_solve 45 = .ok (.isub, 1) := by decide +kernel
theorem dX8_solve_46 : decode cX8_solve 46 = .ok (.istore_n 2, 1) := by decide +kernel
theorem dX8_solve_47 : decode cX8_solve 47 = .ok (.iload_n 2, 1) := by decide +kernel
theorem dX8_solve_48 : decode cX8_solve 48 = .ok (.ifCond .lt 191, 3) := by decide +kernel
theorem dX8_solve_239 : decode cX8_solve 239 = .ok (.aload_n 0, 1) := by decide +kernel
theorem dX8_solve_240 : decode cX8_solve 240 = .ok (.getfield 82, 3) := by decide +kernel
theorem dX8_solve_243 : decode cX8_solve 243 = .ok (.aload_n 0, 1) := by decide +kernel
theorem dX8_solve_244 : decode cX8_solve 244 = .ok (.invokevirtual 307, 3) := by decide +kernel
theorem dX8_solve_247 : decode cX8_solve 247 = .ok (.iaload, 1) := by decide +kernel
theorem dX8_solve_248 : decode cX8_solve 248 = .ok (.ireturn, 1) := by decide +kernel
theorem dX8_spent_0 : decode cX8_spent 0 = .ok (.aload_n 0, 1) := by decide +kernel
theorem dX8_spent_1 : decode cX8_spent 1 = .ok (.iconst 0, 1) := by decide +kernel
theorem dX8_spent_2 : decode cX8_spent 2 = .ok (.putfield 114, 3) := by decide +kernel
theorem dX8_spent_5 : decode cX8_spent 5 = .ok (.iload_n 1, 1) := by decide +kernel
theorem dX8_spent_6 : decode cX8_spent 6 = .ok (.iconst 0, 1) := by decide +kernel
theorem dX8_spent_7 : decode cX8_spent 7 = .ok (.sipush 999, 3) := by decide +kernel
theorem dX8_spent_10 : decode cX8_spent 10 = .ok (.invokestatic 123, 3) := by decide +kernel
theorem dX8_spent_13 : decode cX8_spent 13 = .ok (.ifCond .ne 5, 3) := by decide +kernel
theorem dX8_spent_16 : decode cX8_spent 16 = .ok (.iconst (-1), 1) := by decide +kernel
theorem dX8_spent_17 : decode cX8_spent 17 = .ok (.ireturn, 1) := by decide +kernel
theorem dX8_spent_18 : decode cX8_spent 18 = .ok (.iconst 0, 1) := by decide +kernel
theorem dX8_spent_19 : decode cX8_spent 19 = .ok (.istore_n 2, 1) := by decide +kernel
theorem dX8_spent_20 : decode cX8_spent 20 = .ok (.iconst 0, 1) := by decide +kernel
theorem dX8_spent_21 : decode cX8_spent 21 = .ok (.istore_n 3, 1) := by decide +kernel
theorem dX8_spent_22 : decode cX8_spent 22 = .ok (.iconst 0, 1) := by decide +kernel
theorem dX8_spent_23 : decode cX8_spent 23 = .ok (.istore 4, 2) := by decide +kernel
theorem dX8_spent_25 : decode cX8_spent 25 = .ok (.iload 4, 2) := by decide +kernel
theorem dX8_spent_27 : decode cX8_spent 27 = .ok (.aload_n 0, 1) := by decide +kernel
theorem dX8_spent_28 : decode cX8_spent 28 = .ok (.getfield 120, 3) := by decide +kernel
theorem dX8_spent_31 : decode cX8_spent 31 = .ok (.if_icmp .ge 83, 3) := by decide +kernel
theorem dX8_spent_114 : decode cX8_spent 114 = .ok (.aload_n 0, 1) := by decide +kernel
theorem dX8_spent_115 : decode cX8_spent 115 = .ok (.iconst 0, 1) := by decide +kernel
theorem dX8_spent_116 : decode cX8_spent 116 = .ok (.putfield 117, 3) := by decide +kernel
theorem dX8_spent_119 : decode cX8_spent 119 = .ok (.aload_n 0, 1) := by decide +kernel
theorem dX8_spent_120 : decode cX8_spent 120 = .ok (.iload_n 2, 1) := by decide +kernel
theorem dX8_spent_121 : decode cX8_spent 121 = .ok (.invokestatic 221, 3) := by decide +kernel
theorem dX8_spent_124 : decode cX8_spent 124 = .ok (.i2l, 1) := by decide +kernel
theorem dX8_spent_125 : decode cX8_spent 125 = .ok (.invokevirtual 284, 3) := by decide +kernel
theorem dX8_spent_128 : decode cX8_spent 128 = .ok (.aload_n 0, 1) := by decide +kernel
theorem dX8_spent_129 : decode cX8_spent 129 = .ok (.iload_n 3, 1) := by decide +kernel
theorem dX8_spent_130 : decode cX8_spent 130 = .ok (.i2l, 1) := by decide +kernel
theorem dX8_spent_131 : decode cX8_spent 131 = .ok (.invokevirtual 284, 3) := by decide +kernel
theorem dX8_spent_134 : decode cX8_spent 134 = .ok (.iload_n 2, 1) := by decide +kernel
theorem dX8_spent_135 : decode cX8_spent 135 = .ok (.ireturn, 1) := by decide +kernel
theorem dX8_sure_0 : decode cX8_sure 0 = .ok (.aload_n 0, 1) := by decide +kernel
theorem dX8_sure_1 : decode cX8_sure 1 = .ok (.iconst 0, 1) := by decide +kernel
theorem dX8_sure_2 : decode cX8_sure 2 = .ok (.putfield 114, 3) := by decide +kernel
theorem dX8_sure_5 : decode cX8_sure 5 = .ok (.iload_n 1, 1) := by decide +kernel
theorem dX8_sure_6 : decode cX8_sure 6 = .ok (.iconst 0, 1) := by decide +kernel
theorem dX8_sure_7 : decode cX8_sure 7 = .ok (.aload_n 0, 1) := by decide +kernel
theorem dX8_sure_8 : decode cX8_sure 8 = .ok (.getfield 13, 3) := by decide +kernel
theorem dX8_sure_11 : decode cX8_sure 11 = .ok (.iconst 1, 1) := by decide +kernel
theorem dX8_sure_12 : decode cX8_sure 12 = .ok (.isub, 1) := by decide +kernel
theorem dX8_sure_13 : decode cX8_sure 13 = .ok (.invokestatic 123, 3) := by decide +kernel
theorem dX8_sure_16 : decode cX8_sure 16 = .ok (.ifCond .eq 11, 3) := by decide +kernel
theorem dX8_sure_19 : decode cX8_sure 19 = .ok (.aload_n 0, 1) := by decide +kernel
theorem dX8_sure_20 : decode cX8_sure 20 = .ok (.iload_n 2, 1) := by decide +kernel
theorem dX8_sure_21 : decode cX8_sure 21 = .ok (.invokevirtual 127, 3) := by decide +kernel
theorem dX8_sure_24 : decode cX8_sure 24 = .ok (.ifCond .ne 5, 3) := by decide +kernel
theorem dX8_sure_27 : decode cX8_sure 27 = .ok (.iconst (-1), 1) := by decide +kernel
theorem dX8_sure_28 : decode cX8_sure 28 = .ok (.ireturn, 1) := by decide +kernel
theorem dX8_takes_0 : decode cX8_takes 0 = .ok (.aload_n 0, 1) := by decide +kernel
theorem dX8_takes_1 : decode cX8_takes 1 = .ok (.iconst 0, 1) := by decide +kernel
theorem dX8_takes_2 : decode cX8_takes 2 = .ok (.putfield 114, 3) := by decide +kernel
theorem dX8_takes_5 : decode cX8_takes 5 = .ok (.aload_n 0, 1) := by decide +kernel
theorem dX8_takes_6 : decode cX8_takes 6 = .ok (.iconst (-1), 1) := by decide +kernel
theorem dX8_takes_7 : decode cX8_takes 7 = .ok (.invokevirtual 338, 3) := by decide +kernel
theorem dX8_takes_10 : decode cX8_takes 10 = .ok (.istore_n 1, 1) := by decide +kernel
theorem dX8_takes_11 : decode cX8_takes 11 = .ok (.iload_n 1, 1) := by decide +kernel
theorem dX8_takes_12 : decode cX8_takes 12 = .ok (.ldc 88, 2) := by decide +kernel
theorem dX8_takes_14 : decode cX8_takes 14 = .ok (.if_icmp .ne 6, 3) := by decide +kernel
theorem dX8_takes_17 : decode cX8_takes 17 = .ok (.bipush (-2), 2) := by decide +kernel
theorem dX8_takes_19 : decode cX8_takes 19 = .ok (.ireturn, 1) := by decide +kernel
theorem dX8_tell_0 : decode cX8_tell 0 = .ok (.aload_n 0, 1) := by decide +kernel
theorem dX8_tell_1 : decode cX8_tell 1 = .ok (.getfield 33, 3) := by decide +kernel
theorem dX8_tell_4 : decode cX8_tell 4 = .ok (.aload_n 0, 1) := by decide +kernel
theorem dX8_tell_5 : decode cX8_tell 5 = .ok (.getfield 117, 3) := by decide +kernel
theorem dX8_tell_8 : decode cX8_tell 8 = .ok (.lload_n 1, 1) := by decide +kernel
theorem dX8_tell_9 : decode cX8_tell 9 = .ok (.lastore, 1) := by decide +kernel
theorem dX8_tell_10 : decode cX8_tell 10 = .ok (.aload_n 0, 1) := by decide +kernel
theorem dX8_tell_11 : decode cX8_tell 11 = .ok (.dup, 1) := by decide +kernel
theorem dX8_tell_12 : decode cX8_tell 12 = .ok (.getfield 117, 3) := by decide +kernel
theorem dX8_tell_15 : decode cX8_tell 15 = .ok (.iconst 1, 1) := by decide +kernel
theorem dX8_tell_16 : decode cX8_tell 16 = .ok (.iadd, 1) := by decide +kernel
theorem dX8_tell_17 : decode cX8_tell 17 = .ok (.putfield 117, 3) := by decide +kernel
theorem dX8_tell_20 : decode cX8_tell 20 = .ok (.return_, 1) := by decide +kernel
theorem dX8_tellPart_0 : decode cX8_tellPart 0 = .ok (.lload_n 1, 1) := by decide +kernel
theorem dX8_tellPart_1 : decode cX8_tellPart 1 = .ok (.lload_n 3, 1) := by decide +kernel
theorem dX8_tellPart_2 : decode cX8_tellPart 2 = .ok (.invokestatic 374, 3) := by decide +kernel
theorem dX8_tellPart_5 : decode cX8_tellPart 5 = .ok (.lstore 5, 2) := by decide +kernel
theorem dX8_tellPart_7 : decode cX8_tellPart 7 = .ok (.aload_n 0, 1) := by decide +kernel
theorem dX8_tellPart_8 : decode cX8_tellPart 8 = .ok (.iconst 0, 1) := by decide +kernel
theorem dX8_tellPart_9 : decode cX8_tellPart 9 = .ok (.putfield 117, 3) := by decide +kernel
theorem dX8_tellPart_12 : decode cX8_tellPart 12 = .ok (.aload_n 0, 1) := by decide +kernel
theorem dX8_tellPart_13 : decode cX8_tellPart 13 = .ok (.lload_n 1, 1) := by decide +kernel
theorem dX8_tellPart_14 : decode cX8_tellPart 14 = .ok (.lload 5, 2) := by decide +kernel
theorem dX8_tellPart_16 : decode cX8_tellPart 16 = .ok (.ldiv, 1) := by decide +kernel
theorem dX8_tellPart_17 : decode cX8_tellPart 17 = .ok (.invokevirtual 284, 3) := by decide +kernel
theorem dX8_tellPart_20 : decode cX8_tellPart 20 = .ok (.aload_n 0, 1) := by decide +kernel
theorem dX8_tellPart_21 : decode cX8_tellPart 21 = .ok (.lload_n 3, 1) := by decide +kernel
theorem dX8_tellPart_22 : decode cX8_tellPart 22 = .ok (.lload 5, 2) := by decide +kernel
theorem dX8_tellPart_24 : decode cX8_tellPart 24 = .ok (.ldiv, 1) := by decide +kernel
theorem dX8_tellPart_25 : decode cX8_tellPart 25 = .ok (.invokevirtual 284, 3) := by decide +kernel
theorem dX8_tellPart_28 : decode cX8_tellPart 28 = .ok (.return_, 1) := by decide +kernel
theorem dX8_tellWays_0 : decode cX8_tellWays 0 = .ok (.aload_n 0, 1) := by decide +kernel
theorem dX8_tellWays_1 : decode cX8_tellWays 1 = .ok (.invokevirtual 350, 3) := by decide +kernel
theorem dX8_tellWays_4 : decode cX8_tellWays 4 = .ok (.istore_n 1, 1) := by decide +kernel
theorem dX8_tellWays_5 : decode cX8_tellWays 5 = .ok (.aload_n 0, 1) := by decide +kernel
theorem dX8_tellWays_6 : decode cX8_tellWays 6 = .ok (.iconst 0, 1) := by decide +kernel
theorem dX8_tellWays_7 : decode cX8_tellWays 7 = .ok (.putfield 117, 3) := by decide +kernel
theorem dX8_tellWays_10 : decode cX8_tellWays 10 = .ok (.iload_n 1, 1) := by decide +kernel
theorem dX8_tellWays_11 : decode cX8_tellWays 11 = .ok (.ifCond .ne 5, 3) := by decide +kernel
theorem dX8_tellWays_14 : decode cX8_tellWays 14 = .ok (.iconst 0, 1) := by decide +kernel
theorem dX8_tellWays_15 : decode cX8_tellWays 15 = .ok (.ireturn, 1) := by decide +kernel
theorem dX8_thin_0 : decode cX8_thin 0 = .ok (.aload_n 0, 1) := by decide +kernel
theorem dX8_thin_1 : decode cX8_thin 1 = .ok (.iconst 0, 1) := by decide +kernel
theorem dX8_thin_2 : decode cX8_thin 2 = .ok (.putfield 114, 3) := by decide +kernel
theorem dX8_thin_5 : decode cX8_thin 5 = .ok (.iconst 0, 1) := by decide +kernel
theorem dX8_thin_6 : decode cX8_thin 6 = .ok (.istore_n 1, 1) := by decide +kernel
theorem dX8_thin_7 : decode cX8_thin 7 = .ok (.iconst 1, 1) := by decide +kernel
theorem dX8_thin_8 : decode cX8_thin 8 = .ok (.istore_n 2, 1) := by decide +kernel
theorem dX8_thin_9 : decode cX8_thin 9 = .ok (.iload_n 2, 1) := by decide +kernel
theorem dX8_thin_10 : decode cX8_thin 10 = .ok (.aload_n 0, 1) := by decide +kernel
theorem dX8_thin_11 : decode cX8_thin 11 = .ok (.getfield 13, 3) := by decide +kernel
theorem dX8_thin_14 : decode cX8_thin 14 = .ok (.if_icmp .ge 24, 3) := by decide +kernel
theorem dX8_thin_17 : decode cX8_thin 17 = .ok (.aload_n 0, 1) := by decide +kernel
theorem dX8_thin_18 : decode cX8_thin 18 = .ok (.iload_n 2, 1) := by decide +kernel
theorem dX8_thin_19 : decode cX8_thin 19 = .ok (.invokevirtual 356, 3) := by decide +kernel
theorem dX8_thin_22 : decode cX8_thin 22 = .ok (.aload_n 0, 1) := by decide +kernel
theorem dX8_thin_23 : decode cX8_thin 23 = .ok (.iload_n 1, 1) := by decide +kernel
theorem dX8_thin_24 : decode cX8_thin 24 = .ok (.invokevirtual 356, 3) := by decide +kernel
theorem dX8_thin_27 : decode cX8_thin 27 = .ok (.if_icmp .ge 5, 3) := by decide +kernel
theorem dX8_thin_32 : decode cX8_thin 32 = .ok (.iinc 2 1, 3) := by decide +kernel
theorem dX8_thin_35 : decode cX8_thin 35 = .ok (.goto (-26), 3) := by decide +kernel
theorem dX8_thin_38 : decode cX8_thin 38 = .ok (.aload_n 0, 1) := by decide +kernel
theorem dX8_thin_39 : decode cX8_thin 39 = .ok (.iconst 0, 1) := by decide +kernel
theorem dX8_thin_40 : decode cX8_thin 40 = .ok (.putfield 117, 3) := by decide +kernel
theorem dX8_thin_43 : decode cX8_thin 43 = .ok (.aload_n 0, 1) := by decide +kernel
theorem dX8_thin_44 : decode cX8_thin 44 = .ok (.aload_n 0, 1) := by decide +kernel
theorem dX8_thin_45 : decode cX8_thin 45 = .ok (.iload_n 1, 1) := by decide +kernel
theorem dX8_thin_46 : decode cX8_thin 46 = .ok (.invokevirtual 356, 3) := by decide +kernel
theorem dX8_thin_49 : decode cX8_thin 49 = .ok (.i2l, 1) := by decide +kernel
theorem dX8_thin_50 : decode cX8_thin 50 = .ok (.invokevirtual 284, 3) := by decide +kernel
theorem dX8_thin_53 : decode cX8_thin 53 = .ok (.iload_n 1, 1) := by decide +kernel
theorem dX8_thin_54 : decode cX8_thin 54 = .ok (.ireturn, 1) := by decide +kernel
theorem dX8_thrown_0 : decode cX8_thrown 0 = .ok (.aload_n 0, 1) := by decide +kernel
theorem dX8_thrown_1 : decode cX8_thrown 1 = .ok (.getfield 114, 3) := by decide +kernel
theorem dX8_thrown_4 : decode cX8_thrown 4 = .ok (.ireturn, 1) := by decide +kernel
theorem dX8_tired_0 : decode cX8_tired 0 = .ok (.iconst 0, 1) := by decide +kernel
theorem dX8_tired_1 : decode cX8_tired 1 = .ok (.istore_n 2, 1) := by decide +kernel
theorem dX8_tired_2 : decode cX8_tired 2 = .ok (.iconst 0, 1) := by decide +kernel
theorem dX8_tired_3 : decode cX8_tired 3 = .ok (.istore_n 3, 1) := by decide +kernel
theorem dX8_tired_4 : decode cX8_tired 4 = .ok (.iload_n 3, 1) := by decide +kernel
theorem dX8_tired_5 : decode cX8_tired 5 = .ok (.aload_n 0, 1) := by decide +kernel
theorem dX8_tired_6 : decode cX8_tired 6 = .ok (.getfield 120, 3) := by decide +kernel
theorem dX8_tired_9 : decode cX8_tired 9 = .ok (.if_icmp .ge 18, 3) := by decide +kernel
theorem dX8_tired_27 : decode cX8_tired 27 = .ok (.iload_n 2, 1) := by decide +kernel
theorem dX8_tired_28 : decode cX8_tired 28 = .ok (.ireturn, 1) := by decide +kernel
theorem dX8_trade_0 : decode cX8_trade 0 = .ok (.aload_n 0, 1) := by decide +kernel
theorem dX8_trade_1 : decode cX8_trade 1 = .ok (.iconst 0, 1) := by decide +kernel
theorem dX8_trade_2 : decode cX8_trade 2 = .ok (.putfield 114, 3) := by decide +kernel
theorem dX8_trade_5 : decode cX8_trade 5 = .ok (.aload_n 0, 1) := by decide +kernel
theorem dX8_trade_6 : decode cX8_trade 6 = .ok (.getfield 13, 3) := by decide +kernel
theorem dX8_trade_9 : decode cX8_trade 9 = .ok (.iconst 1, 1) := by decide +kernel
theorem dX8_trade_10 : decode cX8_trade 10 = .ok (.if_icmp .ne 6, 3) := by decide +kernel
theorem dX8_trade_16 : decode cX8_trade 16 = .ok (.ldc 88, 2) := by decide +kernel
theorem dX8_trade_18 : decode cX8_trade 18 = .ok (.istore_n 1, 1) := by decide +kernel
theorem dX8_trade_19 : decode cX8_trade 19 = .ok (.iconst (-1), 1) := by decide +kernel
theorem dX8_trade_20 : decode cX8_trade 20 = .ok (.istore_n 2, 1) := by decide +kernel
theorem dX8_trade_21 : decode cX8_trade 21 = .ok (.iconst (-1), 1) := by decide +kernel
theorem dX8_trade_22 : decode cX8_trade 22 = .ok (.istore_n 3, 1) := by decide +kernel
theorem dX8_trade_23 : decode cX8_trade 23 = .ok (.iconst 0, 1) := by decide +kernel
theorem dX8_trade_24 : decode cX8_trade 24 = .ok (.istore 4, 2) := by decide +kernel
theorem dX8_trade_26 : decode cX8_trade 26 = .ok (.iload 4, 2) := by decide +kernel
theorem dX8_trade_28 : decode cX8_trade 28 = .ok (.aload_n 0, 1) := by decide +kernel
theorem dX8_trade_29 : decode cX8_trade 29 = .ok (.getfield 13, 3) := by decide +kernel
theorem dX8_trade_32 : decode cX8_trade 32 = .ok (.if_icmp .ge 106, 3) := by decide +kernel
theorem dX8_trade_35 : decode cX8_trade 35 = .ok (.iload 4, 2) := by decide +kernel
theorem dX8_trade_37 : decode cX8_trade 37 = .ok (.iconst 1, 1) := by decide +kernel
theorem dX8_trade_38 : decode cX8_trade 38 = .ok (.iadd, 1) := by decide +kernel
theorem dX8_trade_39 : decode cX8_trade 39 = .ok (.istore 5, 2) := by decide +kernel
theorem dX8_trade_41 : decode cX8_trade 41 = .ok (.iload 5, 2) := by decide +kernel
theorem dX8_trade_43 : decode cX8_trade 43 = .ok (.aload_n 0, 1) := by decide +kernel
theorem dX8_trade_44 : decode cX8_trade 44 = .ok (.getfield 13, 3) := by decide +kernel
theorem dX8_trade_47 : decode cX8_trade 47 = .ok (.if_icmp .ge 85, 3) := by decide +kernel
theorem dX8_trade_50 : decode cX8_trade 50 = .ok (.aload_n 0, 1) := by decide +kernel
theorem dX8_trade_51 : decode cX8_trade 51 = .ok (.getfield 9, 3) := by decide +kernel
theorem dX8_trade_54 : decode cX8_trade 54 = .ok (.aload_n 0, 1) := by decide +kernel
theorem dX8_trade_55 : decode cX8_trade 55 = .ok (.getfield 55, 3) := by decide +kernel
theorem dX8_trade_58 : decode cX8_trade 58 = .ok (.iconst 0, 1) := by decide +kernel
theorem dX8_trade_59 : decode cX8_trade 59 = .ok (.invokestatic 249, 3) := by decide +kernel
theorem dX8_trade_62 : decode cX8_trade 62 = .ok (.aload_n 0, 1) := by decide +kernel
theorem dX8_trade_63 : decode cX8_trade 63 = .ok (.getfield 55, 3) := by decide +kernel
theorem dX8_trade_66 : decode cX8_trade 66 = .ok (.iload 4, 2) := by decide +kernel
theorem dX8_trade_68 : decode cX8_trade 68 = .ok (.aload_n 0, 1) := by decide +kernel
theorem dX8_trade_69 : decode cX8_trade 69 = .ok (.getfield 9, 3) := by decide +kernel
theorem dX8_trade_72 : decode cX8_trade 72 = .ok (.iload 5, 2) := by decide +kernel
theorem dX8_trade_74 : decode cX8_trade 74 = .ok (.iaload, 1) := by decide +kernel
theorem dX8_trade_75 : decode cX8_trade 75 = .ok (.iastore, 1) := by decide +kernel
theorem dX8_trade_76 : decode cX8_trade 76 = .ok (.aload_n 0, 1) := by decide +kernel
theorem dX8_trade_77 : decode cX8_trade 77 = .ok (.getfield 55, 3) := by decide +kernel
theorem dX8_trade_80 : decode cX8_trade 80 = .ok (.iload 5, 2) := by decide +kernel
theorem dX8_trade_82 : decode cX8_trade 82 = .ok (.aload_n 0, 1) := by decide +kernel
theorem dX8_trade_83 : decode cX8_trade 83 = .ok (.getfield 9, 3) := by decide +kernel
theorem dX8_trade_86 : decode cX8_trade 86 = .ok (.iload 4, 2) := by decide +kernel
theorem dX8_trade_88 : decode cX8_trade 88 = .ok (.iaload, 1) := by decide +kernel
theorem dX8_trade_89 : decode cX8_trade 89 = .ok (.iastore, 1) := by decide +kernel
theorem dX8_trade_90 : decode cX8_trade 90 = .ok (.aload_n 0, 1) := by decide +kernel
theorem dX8_trade_91 : decode cX8_trade 91 = .ok (.aload_n 0, 1) := by decide +kernel
theorem dX8_trade_92 : decode cX8_trade 92 = .ok (.getfield 55, 3) := by decide +kernel
theorem dX8_trade_95 : decode cX8_trade 95 = .ok (.invokevirtual 277, 3) := by decide +kernel
theorem dX8_trade_98 : decode cX8_trade 98 = .ok (.aload_n 0, 1) := by decide +kernel
theorem dX8_trade_99 : decode cX8_trade 99 = .ok (.getfield 265, 3) := by decide +kernel
theorem dX8_trade_102 : decode cX8_trade 102 = .ok (.invokestatic 221, 3) := by decide +kernel
theorem dX8_trade_105 : decode cX8_trade 105 = .ok (.iload_n 1, 1) := by decide +kernel
theorem dX8_trade_106 : decode cX8_trade 106 = .ok (.if_icmp .lt 6, 3) := by decide +kernel
theorem dX8_trade_109 : decode cX8_trade 109 = .ok (.goto 17, 3) := by decide +kernel
theorem dX8_trade_112 : decode cX8_trade 112 = .ok (.aload_n 0, 1) := by decide +kernel
theorem dX8_trade_113 : decode cX8_trade 113 = .ok (.getfield 265, 3) := by decide +kernel
theorem dX8_trade_116 : decode cX8_trade 116 = .ok (.invokestatic 221, 3) := by decide +kernel
theorem dX8_trade_119 : decode cX8_trade 119 = .ok (.istore_n 1, 1) := by decide +kernel
theorem dX8_trade_120 : decode cX8_trade 120 = .ok (.iload 4, 2) := by decide +kernel
theorem dX8_trade_122 : decode cX8_trade 122 = .ok (.istore_n 2, 1) := by decide +kernel
theorem dX8_trade_123 : decode cX8_trade 123 = .ok (.iload 5, 2) := by decide +kernel
theorem dX8_trade_125 : decode cX8_trade 125 = .ok (.istore_n 3, 1) := by decide +kernel
theorem dX8_trade_126 : decode cX8_trade 126 = .ok (.iinc 5 1, 3) := by decide +kernel
theorem dX8_trade_129 : decode cX8_trade 129 = .ok (.goto (-88), 3) := by decide +kernel
theorem dX8_trade_132 : decode cX8_trade 132 = .ok (.iinc 4 1, 3) := by decide +kernel
theorem dX8_trade_135 : decode cX8_trade 135 = .ok (.goto (-109), 3) := by decide +kernel
theorem dX8_trade_138 : decode cX8_trade 138 = .ok (.aload_n 0, 1) := by decide +kernel
theorem dX8_trade_139 : decode cX8_trade 139 = .ok (.getfield 9, 3) := by decide +kernel
theorem dX8_trade_142 : decode cX8_trade 142 = .ok (.aload_n 0, 1) := by decide +kernel
theorem dX8_trade_143 : decode cX8_trade 143 = .ok (.getfield 55, 3) := by decide +kernel
theorem dX8_trade_146 : decode cX8_trade 146 = .ok (.iconst 0, 1) := by decide +kernel
theorem dX8_trade_147 : decode cX8_trade 147 = .ok (.invokestatic 249, 3) := by decide +kernel
theorem dX8_trade_150 : decode cX8_trade 150 = .ok (.aload_n 0, 1) := by decide +kernel
theorem dX8_trade_151 : decode cX8_trade 151 = .ok (.aload_n 0, 1) := by decide +kernel
theorem dX8_trade_152 : decode cX8_trade 152 = .ok (.getfield 55, 3) := by decide +kernel
theorem dX8_trade_155 : decode cX8_trade 155 = .ok (.invokevirtual 277, 3) := by decide +kernel
theorem dX8_trade_158 : decode cX8_trade 158 = .ok (.aload_n 0, 1) := by decide +kernel
theorem dX8_trade_159 : decode cX8_trade 159 = .ok (.iconst 0, 1) := by decide +kernel
theorem dX8_trade_160 : decode cX8_trade 160 = .ok (.putfield 117, 3) := by decide +kernel
theorem dX8_trade_163 : decode cX8_trade 163 = .ok (.aload_n 0, 1) := by decide +kernel
theorem dX8_trade_164 : decode cX8_trade 164 = .ok (.iload_n 2, 1) := by decide +kernel
theorem dX8_trade_165 : decode cX8_trade 165 = .ok (.i2l, 1) := by decide +kernel
theorem dX8_trade_166 : decode cX8_trade 166 = .ok (.invokevirtual 284, 3) := by decide +kernel
theorem dX8_trade_169 : decode cX8_trade 169 = .ok (.aload_n 0, 1) := by decide +kernel
theorem dX8_trade_170 : decode cX8_trade 170 = .ok (.iload_n 3, 1) := by decide +kernel
theorem dX8_trade_171 : decode cX8_trade 171 = .ok (.i2l, 1) := by decide +kernel
theorem dX8_trade_172 : decode cX8_trade 172 = .ok (.invokevirtual 284, 3) := by decide +kernel
theorem dX8_trade_175 : decode cX8_trade 175 = .ok (.aload_n 0, 1) := by decide +kernel
theorem dX8_trade_176 : decode cX8_trade 176 = .ok (.aload_n 0, 1) := by decide +kernel
theorem dX8_trade_177 : decode cX8_trade 177 = .ok (.getfield 265, 3) := by decide +kernel
theorem dX8_trade_180 : decode cX8_trade 180 = .ok (.invokestatic 221, 3) := by decide +kernel
theorem dX8_trade_183 : decode cX8_trade 183 = .ok (.i2l, 1) := by decide +kernel
theorem dX8_trade_184 : decode cX8_trade 184 = .ok (.invokevirtual 284, 3) := by decide +kernel
theorem dX8_trade_187 : decode cX8_trade 187 = .ok (.iload_n 1, 1) := by decide +kernel
theorem dX8_trade_188 : decode cX8_trade 188 = .ok (.ireturn, 1) := by decide +kernel
theorem dX8_undo_0 : decode cX8_undo 0 = .ok (.aload_n 0, 1) := by decide +kernel
theorem dX8_undo_1 : decode cX8_undo 1 = .ok (.iconst 0, 1) := by decide +kernel
theorem dX8_undo_2 : decode cX8_undo 2 = .ok (.putfield 114, 3) := by decide +kernel
theorem dX8_undo_5 : decode cX8_undo 5 = .ok (.aload_n 0, 1) := by decide +kernel
theorem dX8_undo_6 : decode cX8_undo 6 = .ok (.getfield 182, 3) := by decide +kernel
theorem dX8_undo_9 : decode cX8_undo 9 = .ok (.ifCond .ne 5, 3) := by decide +kernel
theorem dX8_undo_12 : decode cX8_undo 12 = .ok (.iconst (-1), 1) := by decide +kernel
theorem dX8_undo_13 : decode cX8_undo 13 = .ok (.ireturn, 1) := by decide +kernel
theorem dX8_vigil_0 : decode cX8_vigil 0 = .ok (.aload_n 0, 1) := by decide +kernel
theorem dX8_vigil_1 : decode cX8_vigil 1 = .ok (.iconst 0, 1) := by decide +kernel
theorem dX8_vigil_2 : decode cX8_vigil 2 = .ok (.putfield 114, 3) := by decide +kernel
theorem dX8_vigil_5 : decode cX8_vigil 5 = .ok (.iload_n 1, 1) := by decide +kernel
theorem dX8_vigil_6 : decode cX8_vigil 6 = .ok (.iconst 0, 1) := by decide +kernel
theorem dX8_vigil_7 : decode cX8_vigil 7 = .ok (.bipush 60, 2) := by decide +kernel
theorem dX8_vigil_9 : decode cX8_vigil 9 = .ok (.invokestatic 123, 3) := by decide +kernel
theorem dX8_vigil_12 : decode cX8_vigil 12 = .ok (.ifCond .ne 5, 3) := by decide +kernel
theorem dX8_vigil_15 : decode cX8_vigil 15 = .ok (.iconst (-1), 1) := by decide +kernel
theorem dX8_vigil_16 : decode cX8_vigil 16 = .ok (.ireturn, 1) := by decide +kernel
theorem dX8_vigil_17 : decode cX8_vigil 17 = .ok (.aload_n 0, 1) := by decide +kernel
theorem dX8_vigil_18 : decode cX8_vigil 18 = .ok (.getfield 9, 3) := by decide +kernel
theorem dX8_vigil_21 : decode cX8_vigil 21 = .ok (.aload_n 0, 1) := by decide +kernel
theorem dX8_vigil_22 : decode cX8_vigil 22 = .ok (.getfield 55, 3) := by decide +kernel
theorem dX8_vigil_25 : decode cX8_vigil 25 = .ok (.iconst 0, 1) := by decide +kernel
theorem dX8_vigil_26 : decode cX8_vigil 26 = .ok (.invokestatic 249, 3) := by decide +kernel
theorem dX8_vigil_29 : decode cX8_vigil 29 = .ok (.iconst 0, 1) := by decide +kernel
theorem dX8_vigil_30 : decode cX8_vigil 30 = .ok (.istore_n 2, 1) := by decide +kernel
theorem dX8_vigil_31 : decode cX8_vigil 31 = .ok (.iconst (-1), 1) := by decide +kernel
theorem dX8_vigil_32 : decode cX8_vigil 32 = .ok (.istore_n 3, 1) := by decide +kernel
theorem dX8_vigil_33 : decode cX8_vigil 33 = .ok (.iconst 0, 1) := by decide +kernel
theorem dX8_vigil_34 : decode cX8_vigil 34 = .ok (.istore 4, 2) := by decide +kernel
theorem dX8_vigil_36 : decode cX8_vigil 36 = .ok (.iconst 0, 1) := by decide +kernel
theorem dX8_vigil_37 : decode cX8_vigil 37 = .ok (.istore 5, 2) := by decide +kernel
theorem dX8_vigil_39 : decode cX8_vigil 39 = .ok (.iload 5, 2) := by decide +kernel
theorem dX8_vigil_41 : decode cX8_vigil 41 = .ok (.iload_n 1, 1) := by decide +kernel
theorem dX8_vigil_42 : decode cX8_vigil 42 = .ok (.if_icmp .ge 54, 3) := by decide +kernel
theorem dX8_vigil_45 : decode cX8_vigil 45 = .ok (.aload_n 0, 1) := by decide +kernel
theorem dX8_vigil_46 : decode cX8_vigil 46 = .ok (.aload_n 0, 1) := by decide +kernel
theorem dX8_vigil_47 : decode cX8_vigil 47 = .ok (.getfield 55, 3) := by decide +kernel
theorem dX8_vigil_50 : decode cX8_vigil 50 = .ok (.invokevirtual 277, 3) := by decide +kernel
theorem dX8_vigil_53 : decode cX8_vigil 53 = .ok (.aload_n 0, 1) := by decide +kernel
theorem dX8_vigil_54 : decode cX8_vigil 54 = .ok (.getfield 265, 3) := by decide +kernel
theorem dX8_vigil_57 : decode cX8_vigil 57 = .ok (.ifCond .ne 10, 3) := by decide +kernel
theorem dX8_vigil_67 : decode cX8_vigil 67 = .ok (.iconst 0, 1) := by decide +kernel
theorem dX8_vigil_68 : decode cX8_vigil 68 = .ok (.istore 4, 2) := by decide +kernel
theorem dX8_vigil_70 : decode cX8_vigil 70 = .ok (.iload 4, 2) := by decide +kernel
theorem dX8_vigil_72 : decode cX8_vigil 72 = .ok (.iload_n 2, 1) := by decide +kernel
theorem dX8_vigil_73 : decode cX8_vigil 73 = .ok (.if_icmp .gt 6, 3) := by decide +kernel
theorem dX8_vigil_76 : decode cX8_vigil 76 = .ok (.goto 14, 3) := by decide +kernel
theorem dX8_vigil_90 : decode cX8_vigil 90 = .ok (.iinc 5 1, 3) := by decide +kernel
theorem dX8_vigil_93 : decode cX8_vigil 93 = .ok (.goto (-54), 3) := by decide +kernel
theorem dX8_vigil_96 : decode cX8_vigil 96 = .ok (.aload_n 0, 1) := by decide +kernel
theorem dX8_vigil_97 : decode cX8_vigil 97 = .ok (.iconst 0, 1) := by decide +kernel
theorem dX8_vigil_98 : decode cX8_vigil 98 = .ok (.putfield 117, 3) := by decide +kernel
theorem dX8_vigil_101 : decode cX8_vigil 101 = .ok (.aload_n 0, 1) := by decide +kernel
theorem dX8_vigil_102 : decode cX8_vigil 102 = .ok (.iload_n 3, 1) := by decide +kernel
theorem dX8_vigil_103 : decode cX8_vigil 103 = .ok (.i2l, 1) := by decide +kernel
theorem dX8_vigil_104 : decode cX8_vigil 104 = .ok (.invokevirtual 284, 3) := by decide +kernel
theorem dX8_vigil_107 : decode cX8_vigil 107 = .ok (.iload_n 2, 1) := by decide +kernel
theorem dX8_vigil_108 : decode cX8_vigil 108 = .ok (.ireturn, 1) := by decide +kernel
theorem dX8_wasRight_0 : decode cX8_wasRight 0 = .ok (.aload_n 0, 1) := by decide +kernel
theorem dX8_wasRight_1 : decode cX8_wasRight 1 = .ok (.getfield 143, 3) := by decide +kernel
theorem dX8_wasRight_4 : decode cX8_wasRight 4 = .ok (.aload_n 0, 1) := by decide +kernel
theorem dX8_wasRight_5 : decode cX8_wasRight 5 = .ok (.getfield 137, 3) := by decide +kernel
theorem dX8_wasRight_8 : decode cX8_wasRight 8 = .ok (.if_icmp .ge 11, 3) := by decide +kernel
theorem dX8_wasRight_19 : decode cX8_wasRight 19 = .ok (.aload_n 0, 1) := by decide +kernel
theorem dX8_wasRight_20 : decode cX8_wasRight 20 = .ok (.invokevirtual 153, 3) := by decide +kernel
theorem dX8_wasRight_23 : decode cX8_wasRight 23 = .ok (.ireturn, 1) := by decide +kernel
theorem dX8_well_0 : decode cX8_well 0 = .ok (.iconst 1, 1) := by decide +kernel
theorem dX8_well_1 : decode cX8_well 1 = .ok (.aload_n 0, 1) := by decide +kernel
theorem dX8_well_2 : decode cX8_well 2 = .ok (.getfield 120, 3) := by decide +kernel
theorem dX8_well_5 : decode cX8_well 5 = .ok (.ishl, 1) := by decide +kernel
theorem dX8_well_6 : decode cX8_well 6 = .ok (.iconst 1, 1) := by decide +kernel
theorem dX8_well_7 : decode cX8_well 7 = .ok (.isub, 1) := by decide +kernel
theorem dX8_well_8 : decode cX8_well 8 = .ok (.aload_n 0, 1) := by decide +kernel
theorem dX8_well_9 : decode cX8_well 9 = .ok (.aload_n 0, 1) := by decide +kernel
theorem dX8_well_10 : decode cX8_well 10 = .ok (.getfield 9, 3) := by decide +kernel
theorem dX8_well_13 : decode cX8_well 13 = .ok (.invokevirtual 261, 3) := by decide +kernel
theorem dX8_well_16 : decode cX8_well 16 = .ok (.iconst (-1), 1) := by decide +kernel
theorem dX8_well_17 : decode cX8_well 17 = .ok (.ixor, 1) := by decide +kernel
theorem dX8_well_18 : decode cX8_well 18 = .ok (.iand, 1) := by decide +kernel
theorem dX8_well_19 : decode cX8_well 19 = .ok (.ireturn, 1) := by decide +kernel
theorem dX8_year_0 : decode cX8_year 0 = .ok (.aload_n 0, 1) := by decide +kernel
theorem dX8_year_1 : decode cX8_year 1 = .ok (.iconst 0, 1) := by decide +kernel
theorem dX8_year_2 : decode cX8_year 2 = .ok (.putfield 114, 3) := by decide +kernel
theorem dX8_year_5 : decode cX8_year 5 = .ok (.aload_n 0, 1) := by decide +kernel
theorem dX8_year_6 : decode cX8_year 6 = .ok (.bipush 60, 2) := by decide +kernel
theorem dX8_year_8 : decode cX8_year 8 = .ok (.invokevirtual 173, 3) := by decide +kernel
theorem dX8_year_11 : decode cX8_year 11 = .ok (.iconst 0, 1) := by decide +kernel
theorem dX8_year_12 : decode cX8_year 12 = .ok (.istore_n 1, 1) := by decide +kernel
theorem dX8_year_13 : decode cX8_year 13 = .ok (.aload_n 0, 1) := by decide +kernel
theorem dX8_year_14 : decode cX8_year 14 = .ok (.invokevirtual 153, 3) := by decide +kernel
theorem dX8_year_17 : decode cX8_year 17 = .ok (.ifCond .eq 27, 3) := by decide +kernel
theorem dX8_year_20 : decode cX8_year 20 = .ok (.aload_n 0, 1) := by decide +kernel
theorem dX8_year_21 : decode cX8_year 21 = .ok (.getfield 143, 3) := by decide +kernel
theorem dX8_year_24 : decode cX8_year 24 = .ok (.aload_n 0, 1) := by decide +kernel
theorem dX8_year_25 : decode cX8_year 25 = .ok (.getfield 137, 3) := by decide +kernel
theorem dX8_year_28 : decode cX8_year 28 = .ok (.if_icmp .ge 16, 3) := by decide +kernel
theorem dX8_year_44 : decode cX8_year 44 = .ok (.aload_n 0, 1) := by decide +kernel
theorem dX8_year_45 : decode cX8_year 45 = .ok (.invokevirtual 179, 3) := by decide +kernel
theorem dX8_year_48 : decode cX8_year 48 = .ok (.ifCond .ne 10, 3) := by decide +kernel
theorem dX8_year_58 : decode cX8_year 58 = .ok (.aload_n 0, 1) := by decide +kernel
theorem dX8_year_59 : decode cX8_year 59 = .ok (.getfield 9, 3) := by decide +kernel
theorem dX8_year_62 : decode cX8_year 62 = .ok (.aload_n 0, 1) := by decide +kernel
theorem dX8_year_63 : decode cX8_year 63 = .ok (.getfield 52, 3) := by decide +kernel
theorem dX8_year_66 : decode cX8_year 66 = .ok (.iconst 0, 1) := by decide +kernel
theorem dX8_year_67 : decode cX8_year 67 = .ok (.invokestatic 249, 3) := by decide +kernel
theorem dX8_year_70 : decode cX8_year 70 = .ok (.iconst 0, 1) := by decide +kernel
theorem dX8_year_71 : decode cX8_year 71 = .ok (.istore_n 2, 1) := by decide +kernel
theorem dX8_year_72 : decode cX8_year 72 = .ok (.iload_n 2, 1) := by decide +kernel
theorem dX8_year_73 : decode cX8_year 73 = .ok (.iload_n 1, 1) := by decide +kernel
theorem dX8_year_74 : decode cX8_year 74 = .ok (.if_icmp .ge 44, 3) := by decide +kernel
theorem dX8_year_118 : decode cX8_year 118 = .ok (.iload_n 2, 1) := by decide +kernel
theorem dX8_year_119 : decode cX8_year 119 = .ok (.ifCond .le 11, 3) := by decide +kernel
theorem dX8_year_130 : decode cX8_year 130 = .ok (.aload_n 0, 1) := by decide +kernel
theorem dX8_year_131 : decode cX8_year 131 = .ok (.iconst 0, 1) := by decide +kernel
theorem dX8_year_132 : decode cX8_year 132 = .ok (.putfield 117, 3) := by decide +kernel
theorem dX8_year_135 : decode cX8_year 135 = .ok (.aload_n 0, 1) := by decide +kernel
theorem dX8_year_136 : decode cX8_year 136 = .ok (.iload_n 2, 1) := by decide +kernel
theorem dX8_year_137 : decode cX8_year 137 = .ok (.iload_n 1, 1) := by decide +kernel
theorem dX8_year_138 : decode cX8_year 138 = .ok (.if_icmp .ge 7, 3) := by decide +kernel
theorem dX8_year_145 : decode cX8_year 145 = .ok (.lconst 0, 1) := by decide +kernel
theorem dX8_year_146 : decode cX8_year 146 = .ok (.invokevirtual 284, 3) := by decide +kernel
theorem dX8_year_149 : decode cX8_year 149 = .ok (.aload_n 0, 1) := by decide +kernel
theorem dX8_year_150 : decode cX8_year 150 = .ok (.aload_n 0, 1) := by decide +kernel
theorem dX8_year_151 : decode cX8_year 151 = .ok (.getfield 9, 3) := by decide +kernel
theorem dX8_year_154 : decode cX8_year 154 = .ok (.bipush 25, 2) := by decide +kernel
theorem dX8_year_156 : decode cX8_year 156 = .ok (.iaload, 1) := by decide +kernel
theorem dX8_year_157 : decode cX8_year 157 = .ok (.i2l, 1) := by decide +kernel
theorem dX8_year_158 : decode cX8_year 158 = .ok (.invokevirtual 284, 3) := by decide +kernel
theorem dX8_year_161 : decode cX8_year 161 = .ok (.iload_n 2, 1) := by decide +kernel
theorem dX8_year_162 : decode cX8_year 162 = .ok (.ireturn, 1) := by decide +kernel
theorem dX8_years_0 : decode cX8_years 0 = .ok (.aload_n 0, 1) := by decide +kernel
theorem dX8_years_1 : decode cX8_years 1 = .ok (.iconst 0, 1) := by decide +kernel
theorem dX8_years_2 : decode cX8_years 2 = .ok (.putfield 114, 3) := by decide +kernel
theorem dX8_years_5 : decode cX8_years 5 = .ok (.iload_n 2, 1) := by decide +kernel
theorem dX8_years_6 : decode cX8_years 6 = .ok (.iconst 1, 1) := by decide +kernel
theorem dX8_years_7 : decode cX8_years 7 = .ok (.bipush 60, 2) := by decide +kernel
theorem dX8_years_9 : decode cX8_years 9 = .ok (.invokestatic 123, 3) := by decide +kernel
theorem dX8_years_12 : decode cX8_years 12 = .ok (.ifCond .ne 5, 3) := by decide +kernel
theorem dX8_years_15 : decode cX8_years 15 = .ok (.iconst (-1), 1) := by decide +kernel
theorem dX8_years_16 : decode cX8_years 16 = .ok (.ireturn, 1) := by decide +kernel
theorem dX8_years_17 : decode cX8_years 17 = .ok (.aload_n 0, 1) := by decide +kernel
theorem dX8_years_18 : decode cX8_years 18 = .ok (.iload_n 1, 1) := by decide +kernel
theorem dX8_years_19 : decode cX8_years 19 = .ok (.putfield 408, 3) := by decide +kernel
theorem dX8_years_22 : decode cX8_years 22 = .ok (.aload_n 0, 1) := by decide +kernel
theorem dX8_years_23 : decode cX8_years 23 = .ok (.getfield 9, 3) := by decide +kernel
theorem dX8_years_26 : decode cX8_years 26 = .ok (.aload_n 0, 1) := by decide +kernel
theorem dX8_years_27 : decode cX8_years 27 = .ok (.getfield 55, 3) := by decide +kernel
theorem dX8_years_30 : decode cX8_years 30 = .ok (.iconst 0, 1) := by decide +kernel
theorem dX8_years_31 : decode cX8_years 31 = .ok (.invokestatic 249, 3) := by decide +kernel
theorem dX8_years_34 : decode cX8_years 34 = .ok (.iconst 0, 1) := by decide +kernel
theorem dX8_years_35 : decode cX8_years 35 = .ok (.istore_n 3, 1) := by decide +kernel
theorem dX8_years_36 : decode cX8_years 36 = .ok (.iload_n 3, 1) := by decide +kernel
theorem dX8_years_37 : decode cX8_years 37 = .ok (.iload_n 2, 1) := by decide +kernel
theorem dX8_years_38 : decode cX8_years 38 = .ok (.if_icmp .ge 110, 3) := by decide +kernel
theorem dX8_years_41 : decode cX8_years 41 = .ok (.aload_n 0, 1) := by decide +kernel
theorem dX8_years_42 : decode cX8_years 42 = .ok (.iconst 4, 1) := by decide +kernel
theorem dX8_years_43 : decode cX8_years 43 = .ok (.invokevirtual 412, 3) := by decide +kernel
theorem dX8_years_46 : decode cX8_years 46 = .ok (.istore 4, 2) := by decide +kernel
theorem dX8_years_48 : decode cX8_years 48 = .ok (.iload 4, 2) := by decide +kernel
theorem dX8_years_50 : decode cX8_years 50 = .ok (.iconst 2, 1) := by decide +kernel
theorem dX8_years_51 : decode cX8_years 51 = .ok (.if_icmp .ge 11, 3) := by decide +kernel
theorem dX8_years_54 : decode cX8_years 54 = .ok (.aload_n 0, 1) := by decide +kernel
theorem dX8_years_55 : decode cX8_years 55 = .ok (.aload_n 0, 1) := by decide +kernel
theorem dX8_years_56 : decode cX8_years 56 = .ok (.getfield 55, 3) := by decide +kernel
theorem dX8_years_59 : decode cX8_years 59 = .ok (.invokevirtual 277, 3) := by decide +kernel
theorem dX8_years_62 : decode cX8_years 62 = .ok (.iload 4, 2) := by decide +kernel
theorem dX8_years_64 : decode cX8_years 64 = .ok (.iconst 2, 1) := by decide +kernel
theorem dX8_years_65 : decode cX8_years 65 = .ok (.if_icmp .lt 77, 3) := by decide +kernel
theorem dX8_years_68 : decode cX8_years 68 = .ok (.aload_n 0, 1) := by decide +kernel
theorem dX8_years_69 : decode cX8_years 69 = .ok (.getfield 120, 3) := by decide +kernel
theorem dX8_years_72 : decode cX8_years 72 = .ok (.ifCond .ne 6, 3) := by decide +kernel
theorem dX8_years_75 : decode cX8_years 75 = .ok (.goto 67, 3) := by decide +kernel
theorem dX8_years_142 : decode cX8_years 142 = .ok (.iinc 3 1, 3) := by decide +kernel
theorem dX8_years_145 : decode cX8_years 145 = .ok (.goto (-109), 3) := by decide +kernel
theorem dX8_years_148 : decode cX8_years 148 = .ok (.aload_n 0, 1) := by decide +kernel
theorem dX8_years_149 : decode cX8_years 149 = .ok (.iconst 0, 1) := by decide +kernel
theorem dX8_years_150 : decode cX8_years 150 = .ok (.putfield 117, 3) := by decide +kernel
theorem dX8_years_153 : decode cX8_years 153 = .ok (.aload_n 0, 1) := by decide +kernel
theorem dX8_years_154 : decode cX8_years 154 = .ok (.aload_n 0, 1) := by decide +kernel
theorem dX8_years_155 : decode cX8_years 155 = .ok (.getfield 55, 3) := by decide +kernel
theorem dX8_years_158 : decode cX8_years 158 = .ok (.bipush 26, 2) := by decide +kernel
theorem dX8_years_160 : decode cX8_years 160 = .ok (.iaload, 1) := by decide +kernel
theorem dX8_years_161 : decode cX8_years 161 = .ok (.aload_n 0, 1) := by decide +kernel
theorem dX8_years_162 : decode cX8_years 162 = .ok (.getfield 9, 3) := by decide +kernel
theorem dX8_years_165 : decode cX8_years 165 = .ok (.bipush 26, 2) := by decide +kernel
theorem dX8_years_167 : decode cX8_years 167 = .ok (.iaload, 1) := by decide +kernel
theorem dX8_years_168 : decode cX8_years 168 = .ok (.isub, 1) := by decide +kernel
theorem dX8_years_169 : decode cX8_years 169 = .ok (.i2l, 1) := by decide +kernel
theorem dX8_years_170 : decode cX8_years 170 = .ok (.invokevirtual 284, 3) := by decide +kernel
theorem dX8_years_173 : decode cX8_years 173 = .ok (.aload_n 0, 1) := by decide +kernel
theorem dX8_years_174 : decode cX8_years 174 = .ok (.aload_n 0, 1) := by decide +kernel
theorem dX8_years_175 : decode cX8_years 175 = .ok (.aload_n 0, 1) := by decide +kernel
theorem dX8_years_176 : decode cX8_years 176 = .ok (.getfield 55, 3) := by decide +kernel
theorem dX8_years_179 : decode cX8_years 179 = .ok (.invokevirtual 288, 3) := by decide +kernel
theorem dX8_years_182 : decode cX8_years 182 = .ok (.i2l, 1) := by decide +kernel
theorem dX8_years_183 : decode cX8_years 183 = .ok (.invokevirtual 284, 3) := by decide +kernel
theorem dX8_years_186 : decode cX8_years 186 = .ok (.aload_n 0, 1) := by decide +kernel
theorem dX8_years_187 : decode cX8_years 187 = .ok (.getfield 55, 3) := by decide +kernel
theorem dX8_years_190 : decode cX8_years 190 = .ok (.bipush 25, 2) := by decide +kernel
theorem dX8_years_192 : decode cX8_years 192 = .ok (.iaload, 1) := by decide +kernel
theorem dX8_years_193 : decode cX8_years 193 = .ok (.aload_n 0, 1) := by decide +kernel
theorem dX8_years_194 : decode cX8_years 194 = .ok (.getfield 9, 3) := by decide +kernel
theorem dX8_years_197 : decode cX8_years 197 = .ok (.bipush 25, 2) := by decide +kernel
theorem dX8_years_199 : decode cX8_years 199 = .ok (.iaload, 1) := by decide +kernel
theorem dX8_years_200 : decode cX8_years 200 = .ok (.isub, 1) := by decide +kernel
theorem dX8_years_201 : decode cX8_years 201 = .ok (.ireturn, 1) := by decide +kernel
