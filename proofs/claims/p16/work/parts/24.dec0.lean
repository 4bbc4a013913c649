def zJJ0_charAt_5068e : List (List (Option (Instr × Nat))) := [[some (.aload_n 0, 1), some (.invokevirtual 492, 3), none, none, some (.ifCond .eq 12, 3), none, none, some (.aload_n 0, 1), some (.getfield 9, 3), none, none, some (.iload_n 1, 1), some (.invokestatic 495, 3), none, none, some (.ireturn, 1)],
  [some (.aload_n 0, 1), some (.getfield 9, 3), none, none, some (.iload_n 1, 1), none, none, none, some (.ireturn, 1)]]
set_option maxRecDepth 100000 in
theorem zDJ0_charAt_5068e : zdrows cJ0_charAt_5068e 0 zJJ0_charAt_5068e = true := by decide +kernel
def zJJ0_checkBoundsBeginEnd_23922 : List (List (Option (Instr × Nat))) := [[some (.iload_n 0, 1), some (.iload_n 1, 1), some (.iload_n 2, 1), some (.getstatic 1053, 3), none, none, some (.invokestatic 1062, 3), none, none, some (.pop, 1), some (.return_, 1)]]
set_option maxRecDepth 100000 in
theorem zDJ0_checkBoundsBeginEnd_23922 : zdrows cJ0_checkBoundsBeginEnd_23922 0 zJJ0_checkBoundsBeginEnd_23922 = true := by decide +kernel
def zJJ0_checkIndex_df160 : List (List (Option (Instr × Nat))) := [[some (.iload_n 0, 1), some (.iload_n 1, 1), some (.getstatic 1053, 3), none, none, some (.invokestatic 1059, 3), none, none, some (.pop, 1), some (.return_, 1)]]
set_option maxRecDepth 100000 in
theorem zDJ0_checkIndex_df160 : zdrows cJ0_checkIndex_df160 0 zJJ0_checkIndex_df160 = true := by decide +kernel
def zJJ0_coder_7d493 : List (List (Option (Instr × Nat))) := [[some (.getstatic 38, 3), none, none, some (.ifCond .eq 10, 3), none, none, some (.aload_n 0, 1), some (.getfield 15, 3), none, none, some (.goto 4, 3), none, none, some (.iconst 1, 1), some (.ireturn, 1)]]
set_option maxRecDepth 100000 in
theorem zDJ0_coder_7d493 : zdrows cJ0_coder_7d493 0 zJJ0_coder_7d493 = true := by decide +kernel
def zJJ0_indexOf_0f7a4 : List (List (Option (Instr × Nat))) := [[some (.aload_n 0, 1), some (.iload_n 1, 1), some (.iconst 0, 1), some (.invokevirtual 633, 3), none, none, some (.ireturn, 1)]]
set_option maxRecDepth 100000 in
theorem zDJ0_indexOf_0f7a4 : zdrows cJ0_indexOf_0f7a4 0 zJJ0_indexOf_0f7a4 = true := by decide +kernel
def zJJ0_indexOf_7cf53 : List (List (Option (Instr × Nat))) := [[some (.aload_n 0, 1), some (.invokevirtual 492, 3), none, none, some (.ifCond .eq 19, 3), none, none, some (.aload_n 0, 1), some (.getfield 9, 3), none, none, some (.iload_n 1, 1), some (.iload_n 2, 1), some (.aload_n 0, 1), some (.invokevirtual 505, 3), none],
  [none, some (.invokestatic 637, 3), none, none, some (.goto 16, 3), none, none, some (.aload_n 0, 1), some (.getfield 9, 3), none, none, some (.iload_n 1, 1), some (.iload_n 2, 1), some (.aload_n 0, 1), some (.invokevirtual 505, 3), none],
  [none, none, none, none, some (.ireturn, 1)]]
set_option maxRecDepth 100000 in
theorem zDJ0_indexOf_7cf53 : zdrows cJ0_indexOf_7cf53 0 zJJ0_indexOf_7cf53 = true := by decide +kernel
def zJJ0_isLatin1_aae02 : List (List (Option (Instr × Nat))) := [[some (.getstatic 38, 3), none, none, some (.ifCond .eq 14, 3), none, none, some (.aload_n 0, 1), some (.getfield 15, 3), none, none, some (.ifCond .ne 7, 3), none, none, some (.iconst 1, 1), some (.goto 4, 3), none],
  [none, some (.iconst 0, 1), some (.ireturn, 1)]]
set_option maxRecDepth 100000 in
theorem zDJ0_isLatin1_aae02 : zdrows cJ0_isLatin1_aae02 0 zJJ0_isLatin1_aae02 = true := by decide +kernel
def zJJ0_length_8abf5 : List (List (Option (Instr × Nat))) := [[some (.aload_n 0, 1), some (.getfield 9, 3), none, none, some (.arraylength, 1), some (.aload_n 0, 1), some (.invokevirtual 335, 3), none, none, some (.ishr, 1), some (.ireturn, 1)]]
set_option maxRecDepth 100000 in
theorem zDJ0_length_8abf5 : zdrows cJ0_length_8abf5 0 zJJ0_length_8abf5 = true := by decide +kernel
def zJJ1_canEncode_9a6ad : List (List (Option (Instr × Nat))) := [[some (.iload_n 0, 1), some (.ifCond .lt 14, 3), none, none, some (.iload_n 0, 1), some (.sipush 255, 3), none, none, some (.if_icmp .gt 7, 3), none, none, some (.iconst 1, 1), some (.goto 4, 3), none, none, some (.iconst 0, 1)],
  [some (.ireturn, 1)]]
set_option maxRecDepth 100000 in
theorem zDJ1_canEncode_9a6ad : zdrows cJ1_canEncode_9a6ad 0 zJJ1_canEncode_9a6ad = true := by decide +kernel
def zJJ1_charAt_3b067 : List (List (Option (Instr × Nat))) := [[some (.iload_n 1, 1), some (.aload_n 0, 1), some (.arraylength, 1), some (.invokestatic 9, 3), none, none, some (.aload_n 0, 1), some (.iload_n 1, 1), some (.baload, 1), some (.sipush 255, 3), none, none, some (.iand, 1), some (.i2c, 1), some (.ireturn, 1)]]
set_option maxRecDepth 100000 in
theorem zDJ1_charAt_3b067 : zdrows cJ1_charAt_3b067 0 zJJ1_charAt_3b067 = true := by decide +kernel
def zJJ1_indexOfChar_4cfef : List (List (Option (Instr × Nat))) := [[some (.iload_n 1, 1), some (.i2b, 1), some (.istore 4, 2), none, some (.iload_n 2, 1), some (.istore 5, 2), none, some (.iload 5, 2), none, some (.iload_n 3, 1), some (.if_icmp .ge 21, 3), none, none, some (.aload_n 0, 1), some (.iload 5, 2), none],
  [some (.baload, 1), some (.iload 4, 2), none, some (.if_icmp .ne 6, 3), none, none, some (.iload 5, 2), none, some (.ireturn, 1), some (.iinc 5 1, 3), none, none, some (.goto (-21), 3), none, none, some (.iconst (-1), 1)],
  [some (.ireturn, 1)]]
set_option maxRecDepth 100000 in
theorem zDJ1_indexOfChar_4cfef : zdrows cJ1_indexOfChar_4cfef 0 zJJ1_indexOfChar_4cfef = true := by decide +kernel
def zJJ1_indexOf_4cfef : List (List (Option (Instr × Nat))) := [[some (.iload_n 1, 1), some (.invokestatic 88, 3), none, none, some (.ifCond .ne 5, 3), none, none, some (.iconst (-1), 1), some (.ireturn, 1), some (.iload_n 2, 1), some (.iconst 0, 1), some (.invokestatic 92, 3), none, none, some (.istore_n 2, 1), some (.iload_n 3, 1)],
  [some (.aload_n 0, 1), some (.arraylength, 1), some (.invokestatic 38, 3), none, none, some (.istore_n 3, 1), some (.iload_n 2, 1), some (.iload_n 3, 1), some (.if_icmp .lt 5, 3), none, none, some (.iconst (-1), 1), some (.ireturn, 1), some (.aload_n 0, 1), some (.iload_n 1, 1), some (.iload_n 2, 1)],
  [some (.iload_n 3, 1), some (.invokestatic 95, 3), none, none, some (.ireturn, 1)]]
set_option maxRecDepth 100000 in
theorem zDJ1_indexOf_4cfef : zdrows cJ1_indexOf_4cfef 0 zJJ1_indexOf_4cfef = true := by decide +kernel
def zJJ3_checkFromToIndex_8c36e : List (List (Option (Instr × Nat))) := [[some (.iload_n 0, 1), some (.ifCond .lt 13, 3), none, none, some (.iload_n 0, 1), some (.iload_n 1, 1), some (.if_icmp .gt 8, 3), none, none, some (.iload_n 1, 1), some (.iload_n 2, 1), some (.if_icmp .le 11, 3), none, none, some (.aload_n 3, 1), some (.iload_n 0, 1)],
  [some (.iload_n 1, 1), some (.iload_n 2, 1), none, none, none, none, some (.iload_n 0, 1), some (.ireturn, 1)]]
set_option maxRecDepth 100000 in
theorem zDJ3_checkFromToIndex_8c36e : zdrows cJ3_checkFromToIndex_8c36e 0 zJJ3_checkFromToIndex_8c36e = true := by decide +kernel
def zJJ3_checkIndex_8e157 : List (List (Option (Instr × Nat))) := [[some (.iload_n 0, 1), some (.ifCond .lt 8, 3), none, none, some (.iload_n 0, 1), some (.iload_n 1, 1), some (.if_icmp .lt 10, 3), none, none, some (.aload_n 2, 1), some (.iload_n 0, 1), some (.iload_n 1, 1), none, none, none, none],
  [some (.iload_n 0, 1), some (.ireturn, 1)]]
set_option maxRecDepth 100000 in
theorem zDJ3_checkIndex_8e157 : zdrows cJ3_checkIndex_8e157 0 zJJ3_checkIndex_8e157 = true := by decide +kernel
def zJJ6_bitCount_0f7a4 : List (List (Option (Instr × Nat))) := [[some (.iload_n 0, 1), some (.iload_n 0, 1), some (.iconst 1, 1), some (.iushr, 1), some (.ldc_w 265, 3), none, none, some (.iand, 1), some (.isub, 1), some (.istore_n 0, 1), some (.iload_n 0, 1), some (.ldc_w 266, 3), none, none, some (.iand, 1), some (.iload_n 0, 1)],
  [some (.iconst 2, 1), some (.iushr, 1), some (.ldc_w 266, 3), none, none, some (.iand, 1), some (.iadd, 1), some (.istore_n 0, 1), some (.iload_n 0, 1), some (.iload_n 0, 1), some (.iconst 4, 1), some (.iushr, 1), some (.iadd, 1), some (.ldc_w 267, 3), none, none],
  [some (.iand, 1), some (.istore_n 0, 1), some (.iload_n 0, 1), some (.iload_n 0, 1), some (.bipush 8, 2), none, some (.iushr, 1), some (.iadd, 1), some (.istore_n 0, 1), some (.iload_n 0, 1), some (.iload_n 0, 1), some (.bipush 16, 2), none, some (.iushr, 1), some (.iadd, 1), some (.istore_n 0, 1)],
  [some (.iload_n 0, 1), some (.bipush 63, 2), none, some (.iand, 1), some (.ireturn, 1)]]
set_option maxRecDepth 100000 in
theorem zDJ6_bitCount_0f7a4 : zdrows cJ6_bitCount_0f7a4 0 zJJ6_bitCount_0f7a4 = true := by decide +kernel
def zJJ6_numberOfTrailingZeros_0f7a4 : List (List (Option (Instr × Nat))) := [[some (.iload_n 0, 1), some (.iconst (-1), 1), some (.ixor, 1), some (.iload_n 0, 1), some (.iconst 1, 1), some (.isub, 1), some (.iand, 1), some (.istore_n 0, 1), some (.iload_n 0, 1), some (.ifCond .gt 8, 3), none, none, some (.iload_n 0, 1), some (.bipush 32, 2), none, some (.iand, 1)],
  [some (.ireturn, 1), some (.iconst 1, 1), some (.istore_n 1, 1), some (.iload_n 0, 1), some (.ldc_w 264, 3), none, none, some (.if_icmp .le 11, 3), none, none, some (.iinc 1 16, 3), none, none, some (.iload_n 0, 1), some (.bipush 16, 2), none],
  [some (.iushr, 1), some (.istore_n 0, 1), some (.iload_n 0, 1), some (.sipush 256, 3), none, none, some (.if_icmp .le 11, 3), none, none, some (.iinc 1 8, 3), none, none, some (.iload_n 0, 1), some (.bipush 8, 2), none, some (.iushr, 1)],
  [some (.istore_n 0, 1), some (.iload_n 0, 1), some (.bipush 16, 2), none, some (.if_icmp .le 10, 3), none, none, some (.iinc 1 4, 3), none, none, some (.iload_n 0, 1), some (.iconst 4, 1), some (.iushr, 1), some (.istore_n 0, 1), some (.iload_n 0, 1), some (.iconst 4, 1)],
  [some (.if_icmp .le 10, 3), none, none, some (.iinc 1 2, 3), none, none, some (.iload_n 0, 1), some (.iconst 2, 1), some (.iushr, 1), some (.istore_n 0, 1), some (.iload_n 1, 1), some (.iload_n 0, 1), some (.iconst 1, 1), some (.iushr, 1), some (.iadd, 1), some (.ireturn, 1)]]
set_option maxRecDepth 100000 in
theorem zDJ6_numberOfTrailingZeros_0f7a4 : zdrows cJ6_numberOfTrailingZeros_0f7a4 0 zJJ6_numberOfTrailingZeros_0f7a4 = true := by decide +kernel
def zJJ7_fill_53178 : List (List (Option (Instr × Nat))) := [[some (.iconst 0, 1), some (.istore_n 2, 1), some (.aload_n 0, 1), some (.arraylength, 1), some (.istore_n 3, 1), some (.iload_n 2, 1), some (.iload_n 3, 1), some (.if_icmp .ge 13, 3), none, none, some (.aload_n 0, 1), some (.iload_n 2, 1), some (.iload_n 1, 1), some (.iastore, 1), some (.iinc 2 1, 3), none],
  [none, some (.goto (-12), 3), none, none, some (.return_, 1)]]
set_option maxRecDepth 100000 in
theorem zDJ7_fill_53178 : zdrows cJ7_fill_53178 0 zJJ7_fill_53178 = true := by decide +kernel
def zJJ7_fill_d0a16 : List (List (Option (Instr × Nat))) := [[some (.iconst 0, 1), some (.istore_n 3, 1), some (.aload_n 0, 1), some (.arraylength, 1), some (.istore 4, 2), none, some (.iload_n 3, 1), some (.iload 4, 2), none, some (.if_icmp .ge 13, 3), none, none, some (.aload_n 0, 1), some (.iload_n 3, 1), some (.lload_n 1, 1), some (.lastore, 1)],
  [some (.iinc 3 1, 3), none, none, some (.goto (-13), 3), none, none, some (.return_, 1)]]
set_option maxRecDepth 100000 in
theorem zDJ7_fill_d0a16 : zdrows cJ7_fill_d0a16 0 zJJ7_fill_d0a16 = true := by decide +kernel
def zJX0_areTwo : List (List (Option (Instr × Nat))) := [[some (.aload_n 0, 1), some (.iload_n 1, 1), some (.invokevirtual 47, 3), none, none, some (.ifCond .eq 20, 3), none, none, some (.aload_n 0, 1), some (.iload_n 2, 1), some (.invokevirtual 47, 3), none, none, some (.ifCond .eq 12, 3), none, none],
  [some (.iload_n 1, 1), some (.iload_n 2, 1), some (.if_icmp .eq 7, 3), none, none, some (.iconst 1, 1), some (.goto 4, 3), none, none, some (.iconst 0, 1), some (.ireturn, 1)]]
set_option maxRecDepth 100000 in
theorem zDX0_areTwo : zdrows cX0_areTwo 0 zJX0_areTwo = true := by decide +kernel
def zJX0_differ : List (List (Option (Instr × Nat))) := [[some (.aload_n 0, 1), some (.getfield 18, 3), none, none, some (.iload_n 1, 1), some (.iaload, 1), some (.aload_n 0, 1), some (.getfield 18, 3), none, none, some (.iload_n 2, 1), some (.iaload, 1), some (.isub, 1), some (.invokestatic 51, 3), none, none],
  [some (.ireturn, 1)]]
set_option maxRecDepth 100000 in
theorem zDX0_differ : zdrows cX0_differ 0 zJX0_differ = true := by decide +kernel
def zJX0_hardBy : List (List (Option (Instr × Nat))) := [[some (.aload_n 0, 1), some (.getfield 21, 3), none, none, some (.iconst 0, 1), some (.iload 4, 2), none, some (.iastore, 1), some (.aload_n 0, 1), some (.getfield 21, 3), none, none, some (.iconst 1, 1), some (.aload_n 2, 1), some (.getfield 82, 3), none],
  [none, some (.iload_n 3, 1), some (.iaload, 1), some (.iastore, 1), some (.aload_n 0, 1), some (.getfield 21, 3), none, none, some (.iconst 2, 1), some (.aload_n 0, 1), some (.getfield 18, 3), none, none, some (.iload_n 3, 1), some (.iaload, 1), some (.iastore, 1)],
  [some (.aload_n 0, 1), some (.getfield 21, 3), none, none, some (.iconst 3, 1), some (.aload_n 0, 1), some (.getfield 15, 3), none, none, some (.iload_n 3, 1), some (.iaload, 1), some (.iastore, 1), some (.aload_n 0, 1), some (.getfield 21, 3), none, none],
  [some (.iconst 4, 1), some (.iload_n 3, 1), some (.iastore, 1), some (.aload_n 0, 1), some (.getfield 21, 3), none, none, some (.iconst 5, 1), some (.aload_n 2, 1), some (.getfield 87, 3), none, none, some (.bipush 7, 2), none, some (.irem, 1), some (.iastore, 1)],
  [some (.aload_n 0, 1), some (.getfield 21, 3), none, none, some (.bipush 6, 2), none, some (.aload_n 0, 1), some (.getfield 9, 3), none, none, some (.iload_n 3, 1), some (.iaload, 1), some (.invokestatic 90, 3), none, none, some (.iastore, 1)],
  [some (.aload_n 1, 1), some (.aload_n 0, 1), some (.getfield 21, 3), none, none, some (.invokevirtual 95, 3), none, none, some (.iconst 0, 1), some (.sipush 999, 3), none, none, some (.invokestatic 99, 3), none, none, some (.ireturn, 1)]]
set_option maxRecDepth 100000 in
theorem zDX0_hardBy : zdrows cX0_hardBy 0 zJX0_hardBy = true := by decide +kernel
def zJX0_has : List (List (Option (Instr × Nat))) := [[some (.iload_n 1, 1), some (.ifCond .lt 15, 3), none, none, some (.iload_n 1, 1), some (.aload_n 0, 1), some (.getfield 44, 3), none, none, some (.if_icmp .ge 7, 3), none, none, some (.iconst 1, 1), some (.goto 4, 3), none, none],
  [some (.iconst 0, 1), some (.ireturn, 1)]]
set_option maxRecDepth 100000 in
theorem zDX0_has : zdrows cX0_has 0 zJX0_has = true := by decide +kernel
def zJX0_init : List (List (Option (Instr × Nat))) := [[some (.aload_n 0, 1), some (.invokespecial 3, 3), none, none, some (.aload_n 0, 1), some (.bipush 8, 2), none, some (.newarray .int, 2), none, some (.putfield 9, 3), none, none, some (.aload_n 0, 1), some (.bipush 8, 2), none, some (.newarray .int, 2)],
  [none, some (.putfield 15, 3), none, none, some (.aload_n 0, 1), some (.bipush 8, 2), none, some (.newarray .int, 2), none, some (.putfield 18, 3), none, none, some (.aload_n 0, 1), some (.bipush 7, 2), none, some (.newarray .int, 2)],
  [none, some (.putfield 21, 3), none, none, some (.aload_n 0, 1), some (.bipush 8, 2), none, some (.newarray .int, 2), none, some (.putfield 24, 3), none, none, some (.aload_n 0, 1), some (.bipush 8, 2), none, some (.newarray .int, 2)],
  [none, some (.putfield 27, 3), none, none, some (.aload_n 0, 1), some (.bipush 8, 2), none, some (.putfield 30, 3), none, none, some (.aload_n 0, 1), some (.iconst 4, 1), some (.putfield 34, 3), none, none, some (.aload_n 0, 1)],
  [some (.new 37, 3), none, none, some (.dup, 1), some (.invokespecial 39, 3), none, none, some (.putfield 40, 3), none, none, some (.return_, 1)]]
set_option maxRecDepth 100000 in
theorem zDX0_init : zdrows cX0_init 0 zJX0_init = true := by decide +kernel
def zJX0_isAble : List (List (Option (Instr × Nat))) := [[some (.aload_n 0, 1), some (.iload_n 2, 1), some (.invokevirtual 47, 3), none, none, some (.ifCond .eq 29, 3), none, none, some (.aload_n 0, 1), some (.getfield 9, 3), none, none, some (.iload_n 2, 1), some (.iaload, 1), some (.iload_n 3, 1), some (.ishr, 1)],
  [some (.iconst 1, 1), some (.iand, 1), some (.iconst 1, 1), some (.if_icmp .ne 15, 3), none, none, some (.aload_n 1, 1), some (.iload_n 2, 1), some (.invokevirtual 102, 3), none, none, some (.ifCond .ne 7, 3), none, none, some (.iconst 1, 1), some (.goto 4, 3)],
  [none, none, some (.iconst 0, 1), some (.ireturn, 1)]]
set_option maxRecDepth 100000 in
theorem zDX0_isAble : zdrows cX0_isAble 0 zJX0_isAble = true := by decide +kernel
def zJX0_isSomebodyOrNobody : List (List (Option (Instr × Nat))) := [[some (.iload_n 1, 1), some (.iconst (-1), 1), some (.if_icmp .eq 11, 3), none, none, some (.aload_n 0, 1), some (.iload_n 1, 1), some (.invokevirtual 47, 3), none, none, some (.ifCond .eq 7, 3), none, none, some (.iconst 1, 1), some (.goto 4, 3), none],
  [none, some (.iconst 0, 1), some (.ireturn, 1)]]
set_option maxRecDepth 100000 in
theorem zDX0_isSomebodyOrNobody : zdrows cX0_isSomebodyOrNobody 0 zJX0_isSomebodyOrNobody = true := by decide +kernel
def zJX0_pass : List (List (Option (Instr × Nat))) := [[some (.aload_n 0, 1), some (.aload_n 1, 1), some (.invokevirtual 131, 3), none, none, some (.aload_n 0, 1), some (.getfield 27, 3), none, none, some (.iconst 0, 1), some (.invokestatic 111, 3), none, none, some (.iconst 0, 1), some (.istore_n 2, 1), some (.iload_n 2, 1)],
  [some (.aload_n 0, 1), some (.getfield 30, 3), none, none, some (.if_icmp .ge 56, 3), none, none, some (.aload_n 1, 1), some (.getfield 117, 3), none, none, some (.iload_n 2, 1), some (.iaload, 1), some (.istore_n 3, 1), some (.aload_n 0, 1), some (.getfield 108, 3)],
  [none, none, some (.iload_n 2, 1), some (.ishr, 1), some (.iconst 1, 1), some (.iand, 1), some (.iconst 1, 1), some (.if_icmp .ne 31, 3), none, none, some (.aload_n 0, 1), some (.iload_n 3, 1), some (.invokevirtual 47, 3), none, none, some (.ifCond .eq 23, 3)],
  [none, none, some (.aload_n 0, 1), some (.getfield 27, 3), none, none, some (.iload_n 3, 1), some (.dup2, 1), some (.iaload, 1), some (.aload_n 0, 1), some (.aload_n 0, 1), some (.getfield 40, 3), none, none, some (.aload_n 1, 1), some (.iload_n 3, 1)],
  [some (.iload_n 2, 1), some (.invokevirtual 135, 3), none, none, some (.iadd, 1), some (.iastore, 1), some (.iinc 2 1, 3), none, none, some (.goto (-58), 3), none, none, some (.iconst 0, 1), some (.istore_n 2, 1), some (.iload_n 2, 1), some (.aload_n 0, 1)],
  [some (.getfield 44, 3), none, none, some (.if_icmp .ge 56, 3), none, none, some (.aload_n 0, 1), some (.getfield 24, 3), none, none, some (.iload_n 2, 1), some (.iaload, 1), some (.ifCond .le 19, 3), none, none, some (.aload_n 1, 1)],
  [some (.getfield 82, 3), none, none, some (.iload_n 2, 1), some (.iaload, 1), some (.aload_n 0, 1), some (.getfield 27, 3), none, none, some (.iload_n 2, 1), some (.iaload, 1), some (.iadd, 1), some (.goto 11, 3), none, none, some (.aload_n 1, 1)],
  [some (.getfield 82, 3), none, none, some (.iload_n 2, 1), some (.iaload, 1), some (.iconst 5, 1), some (.isub, 1), some (.istore_n 3, 1), some (.aload_n 1, 1), some (.getfield 82, 3), none, none, some (.iload_n 2, 1), some (.iload_n 3, 1), some (.iconst 0, 1), some (.bipush 99, 2)],
  [none, some (.invokestatic 99, 3), none, none, some (.iastore, 1), some (.iinc 2 1, 3), none, none, some (.goto (-58), 3), none, none, some (.aload_n 1, 1), some (.dup, 1), some (.getfield 139, 3), none, none],
  [some (.aload_n 0, 1), some (.getfield 105, 3), none, none, some (.invokestatic 90, 3), none, none, some (.iadd, 1), some (.putfield 139, 3), none, none, some (.aload_n 1, 1), some (.dup, 1), some (.getfield 142, 3), none, none],
  [some (.aload_n 0, 1), some (.getfield 108, 3), none, none, some (.invokestatic 90, 3), none, none, some (.iadd, 1), some (.putfield 142, 3), none, none, some (.aload_n 1, 1), some (.dup, 1), some (.getfield 87, 3), none, none],
  [some (.iconst 1, 1), some (.iadd, 1), some (.putfield 87, 3), none, none, some (.return_, 1)]]
set_option maxRecDepth 100000 in
theorem zDX0_pass : zdrows cX0_pass 0 zJX0_pass = true := by decide +kernel
def zJX0_passAll : List (List (Option (Instr × Nat))) := [[some (.iconst 0, 1), some (.istore_n 3, 1), some (.iload_n 3, 1), some (.iload_n 2, 1), some (.if_icmp .ge 14, 3), none, none, some (.aload_n 0, 1), some (.aload_n 1, 1), some (.invokevirtual 145, 3), none, none, some (.iinc 3 1, 3), none, none, some (.goto (-13), 3)],
  [none, none, some (.return_, 1)]]
set_option maxRecDepth 100000 in
theorem zDX0_passAll : zdrows cX0_passAll 0 zJX0_passAll = true := by decide +kernel
def zJX0_readRiders : List (List (Option (Instr × Nat))) := [[some (.aload_n 1, 1), some (.getfield 57, 3), none, none, some (.ifCond .ne 5, 3), none, none, some (.iconst 0, 1), some (.ireturn, 1), some (.aload_n 1, 1), some (.getfield 57, 3), none, none, some (.bipush 76, 2), none, some (.invokestatic 62, 3)],
  [none, none, some (.istore_n 2, 1), some (.iconst 0, 1), some (.istore_n 3, 1), some (.iconst 0, 1), some (.istore 4, 2), none, some (.iconst 0, 1), some (.istore 5, 2), none, some (.iload 5, 2), none, some (.iload_n 2, 1), some (.if_icmp .ge 58, 3), none],
  [none, some (.aload_n 0, 1), some (.aload_n 1, 1), some (.iload 5, 2), none, some (.invokevirtual 66, 3), none, none, some (.iload_n 3, 1), some (.aload_n 0, 1), some (.getfield 44, 3), none, none, some (.iload 4, 2), none, some (.iadd, 1)],
  [some (.invokevirtual 69, 3), none, none, some (.istore 6, 2), none, some (.iload 6, 2), none, some (.iconst (-1), 1), some (.if_icmp .ne 8, 3), none, none, some (.iconst (-1), 1), some (.iload 5, 2), none, some (.isub, 1), some (.ireturn, 1)],
  [some (.iload 4, 2), none, some (.iload_n 3, 1), some (.iconst 1, 1), some (.if_icmp .ne 7, 3), none, none, some (.iconst 1, 1), some (.goto 4, 3), none, none, some (.iconst 0, 1), some (.iadd, 1), some (.istore 4, 2), none, some (.iload 6, 2)],
  [none, some (.istore_n 3, 1), some (.iinc 5 1, 3), none, none, some (.goto (-58), 3), none, none, some (.aload_n 1, 1), some (.getfield 57, 3), none, none, some (.bipush 76, 2), none, some (.if_icmp .gt 8, 3), none],
  [none, some (.iload_n 3, 1), some (.iconst 2, 1), some (.if_icmp .ge 7, 3), none, none, some (.iconst (-1), 1), some (.iload_n 2, 1), some (.isub, 1), some (.ireturn, 1), some (.aload_n 0, 1), some (.dup, 1), some (.getfield 44, 3), none, none, some (.iload 4, 2)],
  [none, some (.iadd, 1), some (.putfield 44, 3), none, none, some (.iload 4, 2), none, some (.ireturn, 1)]]
set_option maxRecDepth 100000 in
theorem zDX0_readRiders : zdrows cX0_readRiders 0 zJX0_readRiders = true := by decide +kernel
def zJX0_takeHour : List (List (Option (Instr × Nat))) := [[some (.iload_n 1, 1), some (.bipush 8, 2), none, some (.if_icmp .ge 13, 3), none, none, some (.aload_n 0, 1), some (.getfield 9, 3), none, none, some (.iload_n 1, 1), some (.iaload, 1), some (.iload_n 2, 1), some (.if_icmp .lt 5, 3), none, none],
  [some (.iconst (-1), 1), some (.ireturn, 1), some (.aload_n 0, 1), some (.getfield 9, 3), none, none, some (.iload_n 1, 1), some (.dup2, 1), some (.iaload, 1), some (.iload_n 2, 1), some (.ior, 1), some (.iastore, 1), some (.iconst 2, 1), some (.ireturn, 1)]]
set_option maxRecDepth 100000 in
theorem zDX0_takeHour : zdrows cX0_takeHour 0 zJX0_takeHour = true := by decide +kernel
def zJX0_takeMost : List (List (Option (Instr × Nat))) := [[some (.aload_n 0, 1), some (.getfield 15, 3), none, none, some (.iload_n 1, 1), some (.iload_n 2, 1), some (.iastore, 1), some (.iconst 1, 1), some (.ireturn, 1)]]
set_option maxRecDepth 100000 in
theorem zDX0_takeMost : zdrows cX0_takeMost 0 zJX0_takeMost = true := by decide +kernel
def zJX0_takeSign : List (List (Option (Instr × Nat))) := [[some (.iload_n 2, 1), some (.ifCond .ne 35, 3), none, none, some (.iload_n 1, 1), some (.bipush 49, 2), none, some (.if_icmp .lt 27, 3), none, none, some (.iload_n 1, 1), some (.bipush 52, 2), none, some (.if_icmp .gt 21, 3), none, none],
  [some (.iload_n 3, 1), some (.bipush 8, 2), none, some (.if_icmp .ge 15, 3), none, none, some (.aload_n 0, 1), some (.iload_n 3, 1), some (.iload_n 1, 1), some (.bipush 48, 2), none, some (.isub, 1), some (.invokevirtual 73, 3), none, none, some (.goto 4, 3)],
  [none, none, some (.iconst (-1), 1), some (.ireturn, 1), some (.iload_n 2, 1), some (.iconst 1, 1), some (.if_icmp .ne 35, 3), none, none, some (.iload_n 1, 1), some (.bipush 49, 2), none, some (.if_icmp .lt 27, 3), none, none, some (.iload_n 1, 1)],
  [some (.bipush 57, 2), none, some (.if_icmp .gt 21, 3), none, none, some (.iload_n 3, 1), some (.bipush 8, 2), none, some (.if_icmp .ge 15, 3), none, none, some (.aload_n 0, 1), some (.iload_n 3, 1), some (.iload_n 1, 1), some (.bipush 48, 2), none],
  [some (.isub, 1), some (.invokevirtual 76, 3), none, none, some (.goto 4, 3), none, none, some (.iconst (-1), 1), some (.ireturn, 1), some (.iload_n 1, 1), some (.bipush 59, 2), none, some (.if_icmp .ne 5, 3), none, none, some (.iconst 0, 1)],
  [some (.ireturn, 1), some (.iload_n 1, 1), some (.bipush 97, 2), none, some (.if_icmp .lt 29, 3), none, none, some (.iload_n 1, 1), some (.bipush 104, 2), none, some (.if_icmp .gt 23, 3), none, none, some (.iload_n 3, 1), some (.ifCond .le 19, 3), none],
  [none, some (.aload_n 0, 1), some (.iload_n 3, 1), some (.iconst 1, 1), some (.isub, 1), some (.iconst 1, 1), some (.iload_n 1, 1), some (.bipush 97, 2), none, some (.isub, 1), some (.ishl, 1), some (.invokevirtual 79, 3), none, none, some (.goto 4, 3), none],
  [none, some (.iconst (-1), 1), some (.ireturn, 1)]]
set_option maxRecDepth 100000 in
theorem zDX0_takeSign : zdrows cX0_takeSign 0 zJX0_takeSign = true := by decide +kernel
def zJX0_takeWidth : List (List (Option (Instr × Nat))) := [[some (.aload_n 0, 1), some (.getfield 18, 3), none, none, some (.iload_n 1, 1), some (.iload_n 2, 1), some (.iastore, 1), some (.aload_n 0, 1), some (.getfield 9, 3), none, none, some (.iload_n 1, 1), some (.iconst 0, 1), some (.iastore, 1), some (.iconst 2, 1), some (.ireturn, 1)]]
set_option maxRecDepth 100000 in
theorem zDX0_takeWidth : zdrows cX0_takeWidth 0 zJX0_takeWidth = true := by decide +kernel
def zJX0_watch : List (List (Option (Instr × Nat))) := [[some (.aload_n 0, 1), some (.iconst 0, 1), some (.putfield 105, 3), none, none, some (.aload_n 0, 1), some (.iconst 0, 1), some (.putfield 108, 3), none, none, some (.aload_n 0, 1), some (.getfield 24, 3), none, none, some (.iconst 0, 1), some (.invokestatic 111, 3)],
  [none, none, some (.iconst (-1), 1), some (.istore_n 2, 1), some (.iconst 0, 1), some (.istore_n 3, 1), some (.iload_n 3, 1), some (.aload_n 0, 1), some (.getfield 30, 3), none, none, some (.if_icmp .ge 124, 3), none, none, some (.aload_n 1, 1), some (.getfield 117, 3)],
  [none, none, some (.iload_n 3, 1), some (.iaload, 1), some (.istore 4, 2), none, some (.aload_n 0, 1), some (.aload_n 1, 1), some (.iload 4, 2), none, some (.iload_n 3, 1), some (.invokevirtual 120, 3), none, none, some (.ifCond .eq 20, 3), none],
  [none, some (.aload_n 0, 1), some (.getfield 24, 3), none, none, some (.iload 4, 2), none, some (.iaload, 1), some (.aload_n 0, 1), some (.getfield 15, 3), none, none, some (.iload 4, 2), none, some (.iaload, 1), some (.if_icmp .lt 20, 3)],
  [none, none, some (.aload_n 0, 1), some (.dup, 1), some (.getfield 105, 3), none, none, some (.iconst 1, 1), some (.iload_n 3, 1), some (.ishl, 1), some (.ior, 1), some (.putfield 105, 3), none, none, some (.iconst (-1), 1), some (.istore_n 2, 1)],
  [some (.goto 65, 3), none, none, some (.aload_n 0, 1), some (.getfield 24, 3), none, none, some (.iload 4, 2), none, some (.dup2, 1), some (.iaload, 1), some (.iconst 1, 1), some (.iadd, 1), some (.iastore, 1), some (.aload_n 0, 1), some (.dup, 1)],
  [some (.getfield 108, 3), none, none, some (.iconst 1, 1), some (.iload_n 3, 1), some (.ishl, 1), some (.ior, 1), some (.putfield 108, 3), none, none, some (.aload_n 0, 1), some (.iload_n 2, 1), some (.iload 4, 2), none, some (.invokevirtual 124, 3), none],
  [none, some (.ifCond .eq 29, 3), none, none, some (.aload_n 0, 1), some (.iload_n 2, 1), some (.iload 4, 2), none, some (.invokevirtual 128, 3), none, none, some (.aload_n 0, 1), some (.getfield 34, 3), none, none, some (.if_icmp .le 15, 3)],
  [none, none, some (.aload_n 0, 1), some (.dup, 1), some (.getfield 105, 3), none, none, some (.iconst 1, 1), some (.iload_n 3, 1), some (.ishl, 1), some (.ior, 1), some (.putfield 105, 3), none, none, some (.iload 4, 2), none],
  [some (.istore_n 2, 1), some (.iinc 3 1, 3), none, none, some (.goto (-126), 3), none, none, some (.return_, 1)]]
set_option maxRecDepth 100000 in
theorem zDX0_watch : zdrows cX0_watch 0 zJX0_watch = true := by decide +kernel
def zJX1_add : List (List (Option (Instr × Nat))) := [[some (.aload_n 0, 1), some (.getfield 15, 3), none, none, some (.aload_n 0, 1), some (.getfield 9, 3), none, none, some (.arraylength, 1), some (.if_icmp .ge 23, 3), none, none, some (.aload_n 0, 1), some (.getfield 9, 3), none, none],
  [some (.aload_n 0, 1), some (.getfield 15, 3), none, none, some (.lload_n 1, 1), some (.lastore, 1), some (.aload_n 0, 1), some (.dup, 1), some (.getfield 15, 3), none, none, some (.iconst 1, 1), some (.iadd, 1), some (.putfield 15, 3), none, none],
  [some (.return_, 1)]]
set_option maxRecDepth 100000 in
theorem zDX1_add : zdrows cX1_add 0 zJX1_add = true := by decide +kernel
def zJX1_at : List (List (Option (Instr × Nat))) := [[some (.iload_n 1, 1), some (.ifCond .lt 20, 3), none, none, some (.iload_n 1, 1), some (.aload_n 0, 1), some (.getfield 15, 3), none, none, some (.if_icmp .ge 12, 3), none, none, some (.aload_n 0, 1), some (.getfield 9, 3), none, none],
  [some (.iload_n 1, 1), some (.laload, 1), some (.goto 4, 3), none, none, some (.lconst 0, 1), some (.lreturn, 1)]]
set_option maxRecDepth 100000 in
theorem zDX1_at : zdrows cX1_at 0 zJX1_at = true := by decide +kernel
def zJX1_clear : List (List (Option (Instr × Nat))) := [[some (.aload_n 0, 1), some (.iconst 0, 1), some (.putfield 15, 3), none, none, some (.return_, 1)]]
set_option maxRecDepth 100000 in
theorem zDX1_clear : zdrows cX1_clear 0 zJX1_clear = true := by decide +kernel
def zJX1_init : List (List (Option (Instr × Nat))) := [[some (.aload_n 0, 1), some (.invokespecial 3, 3), none, none, some (.aload_n 0, 1), some (.bipush 8, 2), none, some (.newarray .long, 2), none, some (.putfield 9, 3), none, none, some (.return_, 1)]]
set_option maxRecDepth 100000 in
theorem zDX1_init : zdrows cX1_init 0 zJX1_init = true := by decide +kernel
def zJX1_tell : List (List (Option (Instr × Nat))) := [[some (.aload_n 0, 1), some (.invokevirtual 19, 3), none, none, some (.aload_n 0, 1), some (.lload_n 1, 1), some (.invokevirtual 22, 3), none, none, some (.return_, 1)]]
set_option maxRecDepth 100000 in
theorem zDX1_tell : zdrows cX1_tell 0 zJX1_tell = true := by decide +kernel
def zJX1_tell_ : List (List (Option (Instr × Nat))) := [[some (.aload_n 0, 1), some (.invokevirtual 19, 3), none, none, some (.aload_n 0, 1), some (.lload_n 1, 1), some (.invokevirtual 22, 3), none, none, some (.aload_n 0, 1), some (.lload_n 3, 1), some (.invokevirtual 22, 3), none, none, some (.return_, 1)]]
set_option maxRecDepth 100000 in
theorem zDX1_tell_ : zdrows cX1_tell_ 0 zJX1_tell_ = true := by decide +kernel
def zJX2_clear : List (List (Option (Instr × Nat))) := [[some (.aload_n 0, 1), some (.iconst 0, 1), some (.putfield 18, 3), none, none, some (.return_, 1)]]
set_option maxRecDepth 100000 in
theorem zDX2_clear : zdrows cX2_clear 0 zJX2_clear = true := by decide +kernel
def zJX2_init : List (List (Option (Instr × Nat))) := [[some (.aload_n 0, 1), some (.invokespecial 3, 3), none, none, some (.aload_n 0, 1), some (.bipush 12, 2), none, some (.anewarray 11, 3), none, none, some (.putfield 13, 3), none, none, some (.iconst 0, 1), some (.istore_n 1, 1), some (.iload_n 1, 1)],
  [some (.bipush 12, 2), none, some (.if_icmp .ge 22, 3), none, none, some (.aload_n 0, 1), some (.getfield 13, 3), none, none, some (.iload_n 1, 1), some (.new 11, 3), none, none, some (.dup, 1), some (.invokespecial 17, 3), none],
  [none, some (.aastore, 1), some (.iinc 1 1, 3), none, none, some (.goto (-22), 3), none, none, some (.return_, 1)]]
set_option maxRecDepth 100000 in
theorem zDX2_init : zdrows cX2_init 0 zJX2_init = true := by decide +kernel
def zJX2_pop : List (List (Option (Instr × Nat))) := [[some (.aload_n 0, 1), some (.getfield 18, 3), none, none, some (.ifCond .ne 5, 3), none, none, some (.iconst (-1), 1), some (.ireturn, 1), some (.aload_n 0, 1), some (.aload_n 0, 1), some (.getfield 22, 3), none, none, some (.bipush 12, 2), none],
  [some (.iadd, 1), some (.iconst 1, 1), some (.isub, 1), some (.bipush 12, 2), none, some (.irem, 1), some (.putfield 22, 3), none, none, some (.aload_n 0, 1), some (.dup, 1), some (.getfield 18, 3), none, none, some (.iconst 1, 1), some (.isub, 1)],
  [some (.putfield 18, 3), none, none, some (.aload_n 1, 1), some (.aload_n 0, 1), some (.getfield 13, 3), none, none, some (.aload_n 0, 1), some (.getfield 22, 3), none, none, some (.aaload, 1), some (.invokevirtual 25, 3), none, none],
  [some (.aload_n 0, 1), some (.getfield 18, 3), none, none, some (.ireturn, 1)]]
set_option maxRecDepth 100000 in
theorem zDX2_pop : zdrows cX2_pop 0 zJX2_pop = true := by decide +kernel
def zJX2_push : List (List (Option (Instr × Nat))) := [[some (.aload_n 0, 1), some (.getfield 13, 3), none, none, some (.aload_n 0, 1), some (.getfield 22, 3), none, none, some (.aaload, 1), some (.aload_n 1, 1), some (.invokevirtual 25, 3), none, none, some (.aload_n 0, 1), some (.aload_n 0, 1), some (.getfield 22, 3)],
  [none, none, some (.iconst 1, 1), some (.iadd, 1), some (.bipush 12, 2), none, some (.irem, 1), some (.putfield 22, 3), none, none, some (.aload_n 0, 1), some (.aload_n 0, 1), some (.getfield 18, 3), none, none, some (.iconst 1, 1)],
  [some (.iadd, 1), some (.bipush 12, 2), none, some (.invokestatic 29, 3), none, none, some (.putfield 18, 3), none, none, some (.return_, 1)]]
set_option maxRecDepth 100000 in
theorem zDX2_push : zdrows cX2_push 0 zJX2_push = true := by decide +kernel
def zJX3_await : List (List (Option (Instr × Nat))) := [[some (.aload_n 0, 1), some (.getfield 32, 3), none, none, some (.aload_n 0, 1), some (.getfield 15, 3), none, none, some (.arraylength, 1), some (.if_icmp .ge 23, 3), none, none, some (.aload_n 0, 1), some (.getfield 15, 3), none, none],
  [some (.aload_n 0, 1), some (.getfield 32, 3), none, none, some (.iload_n 1, 1), some (.iastore, 1), some (.aload_n 0, 1), some (.dup, 1), some (.getfield 32, 3), none, none, some (.iconst 1, 1), some (.iadd, 1), some (.putfield 32, 3), none, none],
  [some (.return_, 1)]]
set_option maxRecDepth 100000 in
theorem zDX3_await : zdrows cX3_await 0 zJX3_await = true := by decide +kernel
def zJX3_begin : List (List (Option (Instr × Nat))) := [[some (.aload_n 0, 1), some (.iconst 0, 1), some (.putfield 28, 3), none, none, some (.aload_n 0, 1), some (.iconst 0, 1), some (.putfield 32, 3), none, none, some (.aload_n 0, 1), some (.iconst 0, 1), some (.putfield 35, 3), none, none, some (.aload_n 0, 1)],
  [some (.iconst 0, 1), some (.putfield 38, 3), none, none, some (.aload_n 0, 1), some (.iconst 1, 1), some (.putfield 41, 3), none, none, some (.aload_n 0, 1), some (.getfield 21, 3), none, none, some (.iconst 0, 1), some (.iconst 0, 1), some (.bastore, 1)],
  [some (.return_, 1)]]
set_option maxRecDepth 100000 in
theorem zDX3_begin : zdrows cX3_begin 0 zJX3_begin = true := by decide +kernel
def zJX3_binding : List (List (Option (Instr × Nat))) := [[some (.iload_n 0, 1), some (.lookupswitch 83 #[(42, 79), (43, 77), (45, 77), (47, 79), (60, 75), (61, 75), (62, 75), (256, 81)], 75), none, none, none, none, none, none, none, none, none, none, none, none, none, none],
  [none, none, none, none, none, none, none, none, none, none, none, none, none, none, none, none],
  [none, none, none, none, none, none, none, none, none, none, none, none, none, none, none, none],
  [none, none, none, none, none, none, none, none, none, none, none, none, none, none, none, none],
  [none, none, none, none, none, none, none, none, none, none, none, none, some (.iconst 1, 1), some (.ireturn, 1), some (.iconst 2, 1), some (.ireturn, 1)],
  [some (.iconst 3, 1), some (.ireturn, 1), some (.iconst 4, 1), some (.ireturn, 1), some (.iconst 0, 1), some (.ireturn, 1)]]
set_option maxRecDepth 100000 in
theorem zDX3_binding : zdrows cX3_binding 0 zJX3_binding = true := by decide +kernel
def zJX3_closeBracket : List (List (Option (Instr × Nat))) := [[some (.aload_n 0, 1), some (.getfield 35, 3), none, none, some (.ifCond .ne 5, 3), none, none, some (.iconst 0, 1), some (.ireturn, 1), some (.aload_n 0, 1), some (.iconst 1, 1), some (.invokevirtual 67, 3), none, none, some (.aload_n 0, 1), some (.dup, 1)],
  [some (.getfield 35, 3), none, none, some (.iconst 1, 1), some (.isub, 1), some (.putfield 35, 3), none, none, some (.aload_n 0, 1), some (.iconst 0, 1), some (.aload_n 0, 1), some (.getfield 32, 3), none, none, some (.iconst 1, 1), some (.isub, 1)],
  [some (.invokestatic 112, 3), none, none, some (.putfield 32, 3), none, none, some (.iconst 1, 1), some (.ireturn, 1)]]
set_option maxRecDepth 100000 in
theorem zDX3_closeBracket : zdrows cX3_closeBracket 0 zJX3_closeBracket = true := by decide +kernel
def zJX3_emit : List (List (Option (Instr × Nat))) := [[some (.aload_n 0, 1), some (.getfield 28, 3), none, none, some (.aload_n 0, 1), some (.getfield 11, 3), none, none, some (.arraylength, 1), some (.if_icmp .ge 23, 3), none, none, some (.aload_n 0, 1), some (.getfield 11, 3), none, none],
  [some (.aload_n 0, 1), some (.getfield 28, 3), none, none, some (.iload_n 1, 1), some (.iastore, 1), some (.aload_n 0, 1), some (.dup, 1), some (.getfield 28, 3), none, none, some (.iconst 1, 1), some (.iadd, 1), some (.putfield 28, 3), none, none],
  [some (.return_, 1)]]
set_option maxRecDepth 100000 in
theorem zDX3_emit : zdrows cX3_emit 0 zJX3_emit = true := by decide +kernel
def zJX3_init : List (List (Option (Instr × Nat))) := [[some (.aload_n 0, 1), some (.invokespecial 3, 3), none, none, some (.aload_n 0, 1), some (.bipush 40, 2), none, some (.newarray .int, 2), none, some (.putfield 11, 3), none, none, some (.aload_n 0, 1), some (.bipush 40, 2), none, some (.newarray .int, 2)],
  [none, some (.putfield 15, 3), none, none, some (.aload_n 0, 1), some (.bipush 40, 2), none, some (.newarray .int, 2), none, some (.putfield 18, 3), none, none, some (.aload_n 0, 1), some (.iconst 5, 1), some (.newarray .boolean, 2), none],
  [some (.putfield 21, 3), none, none, some (.aload_n 0, 1), some (.invokevirtual 25, 3), none, none, some (.return_, 1)]]
set_option maxRecDepth 100000 in
theorem zDX3_init : zdrows cX3_init 0 zJX3_init = true := by decide +kernel
def zJX3_openBracket : List (List (Option (Instr × Nat))) := [[some (.aload_n 0, 1), some (.getfield 35, 3), none, none, some (.iconst 4, 1), some (.if_icmp .lt 5, 3), none, none, some (.iconst 0, 1), some (.ireturn, 1), some (.aload_n 0, 1), some (.dup, 1), some (.getfield 35, 3), none, none, some (.iconst 1, 1)],
  [some (.iadd, 1), some (.putfield 35, 3), none, none, some (.aload_n 0, 1), some (.getfield 21, 3), none, none, some (.aload_n 0, 1), some (.getfield 35, 3), none, none, some (.iconst 0, 1), some (.bastore, 1), some (.aload_n 0, 1), some (.bipush 40, 2)],
  [none, some (.invokevirtual 85, 3), none, none, some (.iconst 1, 1), some (.ireturn, 1)]]
set_option maxRecDepth 100000 in
theorem zDX3_openBracket : zdrows cX3_openBracket 0 zJX3_openBracket = true := by decide +kernel
def zJX3_push : List (List (Option (Instr × Nat))) := [[some (.iload_n 1, 1), some (.aload_n 0, 1), some (.getfield 18, 3), none, none, some (.arraylength, 1), some (.if_icmp .lt 5, 3), none, none, some (.iload_n 1, 1), some (.ireturn, 1), some (.aload_n 0, 1), some (.getfield 18, 3), none, none, some (.iload_n 1, 1)],
  [some (.iload_n 2, 1), some (.iastore, 1), some (.iload_n 1, 1), some (.iconst 1, 1), some (.iadd, 1), some (.ireturn, 1)]]
set_option maxRecDepth 100000 in
theorem zDX3_push : zdrows cX3_push 0 zJX3_push = true := by decide +kernel
def zJX3_read : List (List (Option (Instr × Nat))) := [[some (.aload_n 1, 1), some (.getfield 71, 3), none, none, some (.ifCond .ne 9, 3), none, none, some (.aload_n 0, 1), some (.invokevirtual 25, 3), none, none, some (.iconst (-1), 1), some (.ireturn, 1), some (.aload_n 0, 1), some (.invokevirtual 45, 3), none],
  [none, some (.aload_n 1, 1), some (.getfield 71, 3), none, none, some (.bipush 40, 2), none, some (.invokestatic 75, 3), none, none, some (.istore_n 2, 1), some (.iconst 0, 1), some (.istore_n 3, 1), some (.iload_n 3, 1), some (.iload_n 2, 1), some (.if_icmp .ge 47, 3)],
  [none, none, some (.aload_n 1, 1), some (.iload_n 3, 1), some (.invokevirtual 81, 3), none, none, some (.istore 4, 2), none, some (.aload_n 0, 1), some (.getfield 41, 3), none, none, some (.ifCond .eq 12, 3), none, none],
  [some (.aload_n 0, 1), some (.iload 4, 2), none, some (.invokevirtual 60, 3), none, none, some (.goto 9, 3), none, none, some (.aload_n 0, 1), some (.iload 4, 2), none, some (.invokevirtual 64, 3), none, none, some (.istore 5, 2)],
  [none, some (.iload 5, 2), none, some (.ifCond .ne 5, 3), none, none, some (.iload_n 3, 1), some (.ireturn, 1), some (.iinc 3 1, 3), none, none, some (.goto (-46), 3), none, none, some (.aload_n 1, 1), some (.getfield 71, 3)],
  [none, none, some (.bipush 40, 2), none, some (.if_icmp .gt 17, 3), none, none, some (.aload_n 0, 1), some (.getfield 41, 3), none, none, some (.ifCond .ne 10, 3), none, none, some (.aload_n 0, 1), some (.getfield 35, 3)],
  [none, none, some (.ifCond .le 5, 3), none, none, some (.iload_n 2, 1), some (.ireturn, 1), some (.aload_n 0, 1), some (.iconst 1, 1), some (.invokevirtual 67, 3), none, none, some (.iconst (-1), 1), some (.ireturn, 1)]]
set_option maxRecDepth 100000 in
theorem zDX3_read : zdrows cX3_read 0 zJX3_read = true := by decide +kernel
def zJX3_readFirst : List (List (Option (Instr × Nat))) := [[some (.aload_n 0, 1), some (.invokevirtual 45, 3), none, none, some (.iconst 0, 1), some (.istore_n 1, 1), some (.iload_n 1, 1), some (.ldc 48, 2), none, some (.invokevirtual 50, 3), none, none, some (.if_icmp .ge 41, 3), none, none, some (.aload_n 0, 1)],
  [some (.getfield 41, 3), none, none, some (.ifCond .eq 17, 3), none, none, some (.aload_n 0, 1), some (.ldc 48, 2), none, some (.iload_n 1, 1), some (.invokevirtual 56, 3), none, none, some (.invokevirtual 60, 3), none, none],
  [some (.pop, 1), some (.goto 14, 3), none, none, some (.aload_n 0, 1), some (.ldc 48, 2), none, some (.iload_n 1, 1), some (.invokevirtual 56, 3), none, none, some (.invokevirtual 64, 3), none, none, some (.pop, 1), some (.iinc 1 1, 3)],
  [none, none, some (.goto (-44), 3), none, none, some (.aload_n 0, 1), some (.iconst 1, 1), some (.invokevirtual 67, 3), none, none, some (.return_, 1)]]
set_option maxRecDepth 100000 in
theorem zDX3_readFirst : zdrows cX3_readFirst 0 zJX3_readFirst = true := by decide +kernel
def zJX3_reckon : List (List (Option (Instr × Nat))) := [[some (.iload_n 0, 1), some (.lookupswitch 104 #[(42, 100), (43, 92), (45, 96), (60, 59), (61, 81), (62, 70)], 59), none, none, none, none, none, none, none, none, none, none, none, none, none, none],
  [none, none, none, none, none, none, none, none, none, none, none, none, none, none, none, none],
  [none, none, none, none, none, none, none, none, none, none, none, none, none, none, none, none],
  [none, none, none, none, none, none, none, none, none, none, none, none, some (.iload_n 1, 1), some (.iload_n 2, 1), some (.if_icmp .ge 7, 3), none],
  [none, some (.iconst 1, 1), some (.goto 4, 3), none, none, some (.iconst 0, 1), some (.ireturn, 1), some (.iload_n 1, 1), some (.iload_n 2, 1), some (.if_icmp .le 7, 3), none, none, some (.iconst 1, 1), some (.goto 4, 3), none, none],
  [some (.iconst 0, 1), some (.ireturn, 1), some (.iload_n 1, 1), some (.iload_n 2, 1), some (.if_icmp .ne 7, 3), none, none, some (.iconst 1, 1), some (.goto 4, 3), none, none, some (.iconst 0, 1), some (.ireturn, 1), some (.iload_n 1, 1), some (.iload_n 2, 1), some (.iadd, 1)],
  [some (.ireturn, 1), some (.iload_n 1, 1), some (.iload_n 2, 1), some (.isub, 1), some (.ireturn, 1), some (.iload_n 1, 1), some (.iload_n 2, 1), some (.imul, 1), some (.ireturn, 1), some (.iload_n 2, 1), some (.ifCond .ne 7, 3), none, none, some (.iconst 0, 1), some (.goto 6, 3), none],
  [none, some (.iload_n 1, 1), some (.iload_n 2, 1), some (.idiv, 1), some (.ireturn, 1)]]
set_option maxRecDepth 100000 in
theorem zDX3_reckon : zdrows cX3_reckon 0 zJX3_reckon = true := by decide +kernel
def zJX3_reckonDownTo : List (List (Option (Instr × Nat))) := [[some (.aload_n 0, 1), some (.getfield 32, 3), none, none, some (.ifCond .le 48, 3), none, none, some (.aload_n 0, 1), some (.getfield 15, 3), none, none, some (.aload_n 0, 1), some (.getfield 32, 3), none, none, some (.iconst 1, 1)],
  [some (.isub, 1), some (.iaload, 1), some (.invokestatic 109, 3), none, none, some (.iload_n 1, 1), some (.if_icmp .lt 30, 3), none, none, some (.aload_n 0, 1), some (.dup, 1), some (.getfield 32, 3), none, none, some (.iconst 1, 1), some (.isub, 1)],
  [some (.putfield 32, 3), none, none, some (.aload_n 0, 1), some (.aload_n 0, 1), some (.getfield 15, 3), none, none, some (.aload_n 0, 1), some (.getfield 32, 3), none, none, some (.iaload, 1), some (.ineg, 1), some (.invokevirtual 100, 3), none],
  [none, some (.goto (-49), 3), none, none, some (.return_, 1)]]
set_option maxRecDepth 100000 in
theorem zDX3_reckonDownTo : zdrows cX3_reckonDownTo 0 zJX3_reckonDownTo = true := by decide +kernel
def zJX3_takeBehindThing : List (List (Option (Instr × Nat))) := [[some (.iload_n 1, 1), some (.invokestatic 97, 3), none, none, some (.ifCond .eq 12, 3), none, none, some (.aload_n 0, 1), some (.iload_n 1, 1), some (.bipush 48, 2), none, some (.isub, 1), some (.invokevirtual 103, 3), none, none, some (.ireturn, 1)],
  [some (.aload_n 0, 1), some (.iconst 0, 1), some (.putfield 38, 3), none, none, some (.iload_n 1, 1), some (.bipush 41, 2), none, some (.if_icmp .ne 8, 3), none, none, some (.aload_n 0, 1), some (.invokevirtual 106, 3), none, none, some (.ireturn, 1)],
  [some (.iload_n 1, 1), some (.invokestatic 109, 3), none, none, some (.istore_n 2, 1), some (.iload_n 2, 1), some (.ifCond .eq 20, 3), none, none, some (.iload_n 2, 1), some (.iconst 1, 1), some (.if_icmp .ne 17, 3), none, none, some (.aload_n 0, 1), some (.getfield 21, 3)],
  [none, none, some (.aload_n 0, 1), some (.getfield 35, 3), none, none, some (.baload, 1), some (.ifCond .eq 5, 3), none, none, some (.iconst 0, 1), some (.ireturn, 1), some (.aload_n 0, 1), some (.getfield 21, 3), none, none],
  [some (.aload_n 0, 1), some (.getfield 35, 3), none, none, some (.aload_n 0, 1), some (.getfield 21, 3), none, none, some (.aload_n 0, 1), some (.getfield 35, 3), none, none, some (.baload, 1), some (.ifCond .ne 8, 3), none, none],
  [some (.iload_n 2, 1), some (.iconst 1, 1), some (.if_icmp .ne 7, 3), none, none, some (.iconst 1, 1), some (.goto 4, 3), none, none, some (.iconst 0, 1), some (.bastore, 1), some (.aload_n 0, 1), some (.iload_n 2, 1), some (.invokevirtual 67, 3), none, none],
  [some (.aload_n 0, 1), some (.iload_n 1, 1), some (.invokevirtual 85, 3), none, none, some (.aload_n 0, 1), some (.iconst 1, 1), some (.putfield 41, 3), none, none, some (.iconst 1, 1), some (.ireturn, 1)]]
set_option maxRecDepth 100000 in
theorem zDX3_takeBehindThing : zdrows cX3_takeBehindThing 0 zJX3_takeBehindThing = true := by decide +kernel
def zJX3_takeDigitMore : List (List (Option (Instr × Nat))) := [[some (.aload_n 0, 1), some (.getfield 38, 3), none, none, some (.iconst 1, 1), some (.if_icmp .lt 19, 3), none, none, some (.aload_n 0, 1), some (.getfield 38, 3), none, none, some (.iconst 3, 1), some (.if_icmp .ge 11, 3), none, none],
  [some (.aload_n 0, 1), some (.getfield 28, 3), none, none, some (.iconst 1, 1), some (.if_icmp .ge 5, 3), none, none, some (.iconst 0, 1), some (.ireturn, 1), some (.aload_n 0, 1), some (.dup, 1), some (.getfield 38, 3), none, none, some (.iconst 1, 1)],
  [some (.iadd, 1), some (.putfield 38, 3), none, none, some (.aload_n 0, 1), some (.getfield 11, 3), none, none, some (.aload_n 0, 1), some (.getfield 28, 3), none, none, some (.iconst 1, 1), some (.isub, 1), some (.aload_n 0, 1), some (.getfield 11, 3)],
  [none, none, some (.aload_n 0, 1), some (.getfield 28, 3), none, none, some (.iconst 1, 1), some (.isub, 1), some (.iaload, 1), some (.bipush 10, 2), none, some (.imul, 1), some (.iload_n 1, 1), some (.iadd, 1), some (.iastore, 1), some (.iconst 1, 1)],
  [some (.ireturn, 1)]]
set_option maxRecDepth 100000 in
theorem zDX3_takeDigitMore : zdrows cX3_takeDigitMore 0 zJX3_takeDigitMore = true := by decide +kernel
def zJX3_takeThing : List (List (Option (Instr × Nat))) := [[some (.iload_n 1, 1), some (.bipush 45, 2), none, some (.if_icmp .ne 12, 3), none, none, some (.aload_n 0, 1), some (.sipush 256, 3), none, none, some (.invokevirtual 85, 3), none, none, some (.iconst 1, 1), some (.ireturn, 1), some (.iload_n 1, 1)],
  [some (.bipush 40, 2), none, some (.if_icmp .ne 8, 3), none, none, some (.aload_n 0, 1), some (.invokevirtual 88, 3), none, none, some (.ireturn, 1), some (.ldc 92, 2), none, some (.iload_n 1, 1), some (.i2c, 1), some (.invokevirtual 94, 3), none],
  [none, some (.istore_n 2, 1), some (.iload_n 1, 1), some (.invokestatic 97, 3), none, none, some (.ifCond .ne 9, 3), none, none, some (.iload_n 2, 1), some (.ifCond .ge 5, 3), none, none, some (.iconst 0, 1), some (.ireturn, 1), some (.aload_n 0, 1)],
  [some (.iload_n 2, 1), some (.ifCond .ge 7, 3), none, none, some (.iconst 1, 1), some (.goto 4, 3), none, none, some (.iconst 0, 1), some (.putfield 38, 3), none, none, some (.aload_n 0, 1), some (.iload_n 2, 1), some (.ifCond .ge 10, 3), none],
  [none, some (.iload_n 1, 1), some (.bipush 48, 2), none, some (.isub, 1), some (.goto 6, 3), none, none, some (.iconst (-1), 1), some (.iload_n 2, 1), some (.isub, 1), some (.invokevirtual 100, 3), none, none, some (.aload_n 0, 1), some (.iconst 0, 1)],
  [some (.putfield 41, 3), none, none, some (.iconst 1, 1), some (.ireturn, 1)]]
set_option maxRecDepth 100000 in
theorem zDX3_takeThing : zdrows cX3_takeThing 0 zJX3_takeThing = true := by decide +kernel
def zJX3_value : List (List (Option (Instr × Nat))) := [[some (.iconst 0, 1), some (.istore_n 2, 1), some (.iconst 0, 1), some (.istore_n 3, 1), some (.iload_n 3, 1), some (.aload_n 0, 1), some (.getfield 28, 3), none, none, some (.if_icmp .ge 125, 3), none, none, some (.aload_n 0, 1), some (.getfield 11, 3), none, none],
  [some (.iload_n 3, 1), some (.iaload, 1), some (.istore 4, 2), none, some (.iload 4, 2), none, some (.ifCond .lt 14, 3), none, none, some (.aload_n 0, 1), some (.iload_n 2, 1), some (.iload 4, 2), none, some (.invokevirtual 115, 3), none, none],
  [some (.istore_n 2, 1), some (.goto 95, 3), none, none, some (.iconst (-1), 1), some (.iload 4, 2), none, some (.isub, 1), some (.aload_n 1, 1), some (.arraylength, 1), some (.if_icmp .ge 18, 3), none, none, some (.aload_n 0, 1), some (.iload_n 2, 1), some (.aload_n 1, 1)],
  [some (.iconst (-1), 1), some (.iload 4, 2), none, some (.isub, 1), some (.iaload, 1), some (.invokevirtual 115, 3), none, none, some (.istore_n 2, 1), some (.goto 71, 3), none, none, some (.iload 4, 2), none, some (.sipush (-256), 3), none],
  [none, some (.if_icmp .ne 27, 3), none, none, some (.iload_n 2, 1), some (.ifCond .le 23, 3), none, none, some (.aload_n 0, 1), some (.getfield 18, 3), none, none, some (.iload_n 2, 1), some (.iconst 1, 1), some (.isub, 1), some (.aload_n 0, 1)],
  [some (.getfield 18, 3), none, none, some (.iload_n 2, 1), some (.iconst 1, 1), some (.isub, 1), some (.iaload, 1), some (.ineg, 1), some (.iastore, 1), some (.goto 39, 3), none, none, some (.iload_n 2, 1), some (.iconst 1, 1), some (.if_icmp .le 34, 3), none],
  [none, some (.iinc 2 (-1), 3), none, none, some (.aload_n 0, 1), some (.getfield 18, 3), none, none, some (.iload_n 2, 1), some (.iconst 1, 1), some (.isub, 1), some (.iload 4, 2), none, some (.ineg, 1), some (.aload_n 0, 1), some (.getfield 18, 3)],
  [none, none, some (.iload_n 2, 1), some (.iconst 1, 1), some (.isub, 1), some (.iaload, 1), some (.aload_n 0, 1), some (.getfield 18, 3), none, none, some (.iload_n 2, 1), some (.iaload, 1), some (.invokestatic 118, 3), none, none, some (.iastore, 1)],
  [some (.iinc 3 1, 3), none, none, some (.goto (-127), 3), none, none, some (.aload_n 0, 1), some (.getfield 18, 3), none, none, some (.iconst 0, 1), some (.iaload, 1), some (.ireturn, 1)]]
set_option maxRecDepth 100000 in
theorem zDX3_value : zdrows cX3_value 0 zJX3_value = true := by decide +kernel
def zJX4_addLeast : List (List (Option (Instr × Nat))) := [[some (.aload_n 0, 1), some (.getfield 53, 3), none, none, some (.istore_n 2, 1), some (.iload_n 2, 1), some (.ifCond .le 79, 3), none, none, some (.iload_n 2, 1), some (.iload_n 1, 1), some (.iand, 1), some (.istore_n 3, 1), some (.aload_n 0, 1), some (.getfield 34, 3), none],
  [none, some (.iload_n 2, 1), some (.laload, 1), some (.lstore 4, 2), none, some (.iload_n 3, 1), some (.istore 6, 2), none, some (.iload 6, 2), none, some (.ifCond .le 45, 3), none, none, some (.aload_n 0, 1), some (.getfield 34, 3), none],
  [none, some (.iload_n 2, 1), some (.iload 6, 2), none, some (.ixor, 1), some (.laload, 1), some (.aload_n 0, 1), some (.getfield 31, 3), none, none, some (.iload 6, 2), none, some (.laload, 1), some (.ladd, 1), some (.lstore 7, 2), none],
  [some (.lload 7, 2), none, some (.lload 4, 2), none, some (.lcmp, 1), some (.ifCond .ge 7, 3), none, none, some (.lload 7, 2), none, some (.lstore 4, 2), none, some (.iload 6, 2), none, some (.iconst 1, 1), some (.isub, 1)],
  [some (.iload_n 3, 1), some (.iand, 1), some (.istore 6, 2), none, some (.goto (-44), 3), none, none, some (.aload_n 0, 1), some (.getfield 34, 3), none, none, some (.iload_n 2, 1), some (.lload 4, 2), none, some (.lastore, 1), some (.iinc 2 (-1), 3)],
  [none, none, some (.goto (-77), 3), none, none, some (.return_, 1)]]
set_option maxRecDepth 100000 in
theorem zDX4_addLeast : zdrows cX4_addLeast 0 zJX4_addLeast = true := by decide +kernel
def zJX4_addLeastMost : List (List (Option (Instr × Nat))) := [[some (.aload_n 0, 1), some (.getfield 53, 3), none, none, some (.istore_n 2, 1), some (.iload_n 2, 1), some (.ifCond .le 101, 3), none, none, some (.iload_n 2, 1), some (.iload_n 1, 1), some (.iand, 1), some (.istore_n 3, 1), some (.aload_n 0, 1), some (.getfield 34, 3), none],
  [none, some (.iload_n 2, 1), some (.laload, 1), some (.lstore 4, 2), none, some (.iload_n 3, 1), some (.istore 6, 2), none, some (.iload 6, 2), none, some (.ifCond .le 67, 3), none, none, some (.aload_n 0, 1), some (.getfield 34, 3), none],
  [none, some (.iload_n 2, 1), some (.iload 6, 2), none, some (.ixor, 1), some (.laload, 1), some (.aload_n 0, 1), some (.getfield 31, 3), none, none, some (.iload 6, 2), none, some (.laload, 1), some (.lcmp, 1), some (.ifCond .le 15, 3), none],
  [none, some (.aload_n 0, 1), some (.getfield 34, 3), none, none, some (.iload_n 2, 1), some (.iload 6, 2), none, some (.ixor, 1), some (.laload, 1), some (.goto 10, 3), none, none, some (.aload_n 0, 1), some (.getfield 31, 3), none],
  [none, some (.iload 6, 2), none, some (.laload, 1), some (.lstore 7, 2), none, some (.lload 7, 2), none, some (.lload 4, 2), none, some (.lcmp, 1), some (.ifCond .ge 7, 3), none, none, some (.lload 7, 2), none],
  [some (.lstore 4, 2), none, some (.iload 6, 2), none, some (.iconst 1, 1), some (.isub, 1), some (.iload_n 3, 1), some (.iand, 1), some (.istore 6, 2), none, some (.goto (-66), 3), none, none, some (.aload_n 0, 1), some (.getfield 34, 3), none],
  [none, some (.iload_n 2, 1), some (.lload 4, 2), none, some (.lastore, 1), some (.iinc 2 (-1), 3), none, none, some (.goto (-99), 3), none, none, some (.return_, 1)]]
set_option maxRecDepth 100000 in
theorem zDX4_addLeastMost : zdrows cX4_addLeastMost 0 zJX4_addLeastMost = true := by decide +kernel
def zJX4_addStep : List (List (Option (Instr × Nat))) := [[some (.iload_n 1, 1), some (.ifCond .ne 4, 3), none, none, some (.return_, 1), some (.iconst 0, 1), some (.istore_n 2, 1), some (.iload_n 2, 1), some (.aload_n 0, 1), some (.getfield 53, 3), none, none, some (.if_icmp .gt 41, 3), none, none, some (.iload_n 2, 1)],
  [some (.iload_n 2, 1), some (.iconst 1, 1), some (.ishr, 1), some (.ixor, 1), some (.aload_n 0, 1), some (.getfield 53, 3), none, none, some (.iconst 1, 1), some (.ishr, 1), some (.iand, 1), some (.invokestatic 99, 3), none, none, some (.istore_n 3, 1), some (.aload_n 0, 1)],
  [some (.getfield 34, 3), none, none, some (.iload_n 2, 1), some (.dup2, 1), some (.laload, 1), some (.iload_n 1, 1), some (.iload_n 3, 1), some (.imul, 1), some (.i2l, 1), some (.bipush 24, 2), none, some (.lshl, 1), some (.ladd, 1), some (.lastore, 1), some (.iinc 2 1, 3)],
  [none, none, some (.goto (-43), 3), none, none, some (.return_, 1)]]
set_option maxRecDepth 100000 in
theorem zDX4_addStep : zdrows cX4_addStep 0 zJX4_addStep = true := by decide +kernel
def zJX4_addWays : List (List (Option (Instr × Nat))) := [[some (.aload_n 0, 1), some (.iload 4, 2), none, some (.invokevirtual 82, 3), none, none, some (.aload_n 0, 1), some (.getfield 53, 3), none, none, some (.istore 5, 2), none, some (.iload 5, 2), none, some (.ifCond .lt 86, 3), none],
  [none, some (.iload 5, 2), none, some (.aload_n 0, 1), some (.getfield 9, 3), none, none, some (.iload 4, 2), none, some (.iaload, 1), some (.iand, 1), some (.istore 6, 2), none, some (.aload_n 1, 1), some (.iload_n 2, 1), some (.iload 5, 2)],
  [none, some (.iadd, 1), some (.iaload, 1), some (.istore 7, 2), none, some (.iload 6, 2), none, some (.istore 8, 2), none, some (.iload 8, 2), none, some (.ifCond .le 43, 3), none, none, some (.aload_n 0, 1), some (.getfield 31, 3)],
  [none, none, some (.iload 8, 2), none, some (.laload, 1), some (.ldc2_w 80, 3), none, none, some (.lcmp, 1), some (.ifCond .ge 17, 3), none, none, some (.iload 7, 2), none, some (.aload_n 1, 1), some (.iload_n 2, 1)],
  [some (.iload 5, 2), none, some (.iload 8, 2), none, some (.ixor, 1), some (.iadd, 1), some (.iaload, 1), some (.iadd, 1), some (.istore 7, 2), none, some (.iload 8, 2), none, some (.iconst 1, 1), some (.isub, 1), some (.iload 6, 2), none],
  [some (.iand, 1), some (.istore 8, 2), none, some (.goto (-42), 3), none, none, some (.aload_n 1, 1), some (.iload_n 3, 1), some (.iload 5, 2), none, some (.iadd, 1), some (.iload 7, 2), none, some (.iastore, 1), some (.iinc 5 (-1), 3), none],
  [none, some (.goto (-85), 3), none, none, some (.return_, 1)]]
set_option maxRecDepth 100000 in
theorem zDX4_addWays : zdrows cX4_addWays 0 zJX4_addWays = true := by decide +kernel
def zJX4_bar : List (List (Option (Instr × Nat))) := [[some (.aload_n 0, 1), some (.getfield 9, 3), none, none, some (.iload_n 2, 1), some (.dup2, 1), some (.iaload, 1), some (.iconst 1, 1), some (.iload_n 1, 1), some (.ishl, 1), some (.iconst (-1), 1), some (.ixor, 1), some (.iand, 1), some (.iastore, 1), some (.return_, 1)]]
set_option maxRecDepth 100000 in
theorem zDX4_bar : zdrows cX4_bar 0 zJX4_bar = true := by decide +kernel
def zJX4_canHold : List (List (Option (Instr × Nat))) := [[some (.aload_n 0, 1), some (.getfield 34, 3), none, none, some (.iload_n 1, 1), some (.aload_n 0, 1), some (.getfield 53, 3), none, none, some (.iand, 1), some (.laload, 1), some (.ldc2_w 80, 3), none, none, some (.lcmp, 1), some (.ifCond .ge 7, 3)],
  [none, none, some (.iconst 1, 1), some (.goto 4, 3), none, none, some (.iconst 0, 1), some (.ireturn, 1)]]
set_option maxRecDepth 100000 in
theorem zDX4_canHold : zdrows cX4_canHold 0 zJX4_canHold = true := by decide +kernel
def zJX4_charge : List (List (Option (Instr × Nat))) := [[some (.aload_n 0, 1), some (.getfield 24, 3), none, none, some (.iload_n 1, 1), some (.bipush 8, 2), none, some (.imul, 1), some (.iload_n 2, 1), some (.iadd, 1), some (.lload_n 3, 1), some (.lastore, 1), some (.return_, 1)]]
set_option maxRecDepth 100000 in
theorem zDX4_charge : zdrows cX4_charge 0 zJX4_charge = true := by decide +kernel
def zJX4_findLacks : List (List (Option (Instr × Nat))) := [[some (.iconst 0, 1), some (.istore_n 1, 1), some (.iload_n 1, 1), some (.sipush 256, 3), none, none, some (.if_icmp .ge 24, 3), none, none, some (.aload_n 0, 1), some (.getfield 46, 3), none, none, some (.iload_n 1, 1), some (.iload_n 1, 1), some (.ifCond .ne 7, 3)],
  [none, none, some (.iconst 1, 1), some (.goto 4, 3), none, none, some (.iconst 0, 1), some (.bastore, 1), some (.iinc 1 1, 3), none, none, some (.goto (-25), 3), none, none, some (.iconst 1, 1), some (.istore_n 1, 1)],
  [some (.iload_n 1, 1), some (.aload_n 0, 1), some (.getfield 53, 3), none, none, some (.if_icmp .gt 14, 3), none, none, some (.aload_n 0, 1), some (.iload_n 1, 1), some (.invokevirtual 120, 3), none, none, some (.iinc 1 1, 3), none, none],
  [some (.goto (-16), 3), none, none, some (.return_, 1)]]
set_option maxRecDepth 100000 in
theorem zDX4_findLacks : zdrows cX4_findLacks 0 zJX4_findLacks = true := by decide +kernel
def zJX4_findLacksIn : List (List (Option (Instr × Nat))) := [[some (.iload_n 1, 1), some (.invokestatic 99, 3), none, none, some (.istore_n 2, 1), some (.aload_n 0, 1), some (.getfield 50, 3), none, none, some (.iconst 0, 1), some (.iconst 0, 1), some (.iastore, 1), some (.iconst 0, 1), some (.istore_n 3, 1), some (.iload_n 3, 1), some (.bipush 8, 2)],
  [none, some (.if_icmp .ge 93, 3), none, none, some (.iconst 1, 1), some (.iload_n 3, 1), some (.ishl, 1), some (.istore 4, 2), none, some (.aload_n 0, 1), some (.getfield 15, 3), none, none, some (.iload_n 3, 1), some (.iaload, 1), some (.aload_n 0, 1)],
  [some (.getfield 9, 3), none, none, some (.iload_n 3, 1), some (.iaload, 1), some (.iload_n 1, 1), some (.iand, 1), some (.invokestatic 99, 3), none, none, some (.invokestatic 123, 3), none, none, some (.istore 5, 2), none, some (.iconst 0, 1)],
  [some (.istore 6, 2), none, some (.iload 6, 2), none, some (.iload 4, 2), none, some (.if_icmp .ge 50, 3), none, none, some (.aload_n 0, 1), some (.getfield 50, 3), none, none, some (.iload 6, 2), none, some (.iaload, 1)],
  [some (.iload 5, 2), none, some (.iadd, 1), some (.istore 7, 2), none, some (.aload_n 0, 1), some (.getfield 50, 3), none, none, some (.iload 6, 2), none, some (.iload 4, 2), none, some (.iadd, 1), some (.iload 7, 2), none],
  [some (.iastore, 1), some (.iload 7, 2), none, some (.iload_n 2, 1), some (.if_icmp .ge 14, 3), none, none, some (.aload_n 0, 1), some (.getfield 46, 3), none, none, some (.iload 6, 2), none, some (.iload 4, 2), none, some (.iadd, 1)],
  [some (.iconst 1, 1), some (.bastore, 1), some (.iinc 6 1, 3), none, none, some (.goto (-51), 3), none, none, some (.iinc 3 1, 3), none, none, some (.goto (-93), 3), none, none, some (.return_, 1)]]
set_option maxRecDepth 100000 in
theorem zDX4_findLacksIn : zdrows cX4_findLacksIn 0 zJX4_findLacksIn = true := by decide +kernel
