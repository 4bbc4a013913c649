def zJX7_yearFault : List (List (Option (Instr × Nat))) := [[some (.aload_n 0, 1), some (.getfield 10, 3), none, none, some (.getfield 215, 3), none, none, some (.bipush 60, 2), none, some (.invokestatic 400, 3), none, none, some (.istore_n 1, 1), some (.iconst 0, 1), some (.istore_n 2, 1), some (.iconst 0, 1)],
  [some (.istore_n 3, 1), some (.iconst 0, 1), some (.istore 4, 2), none, some (.iload 4, 2), none, some (.iload_n 1, 1), some (.if_icmp .ge 86, 3), none, none, some (.aload_n 0, 1), some (.getfield 10, 3), none, none, some (.iload 4, 2), none],
  [some (.invokevirtual 218, 3), none, none, some (.istore 5, 2), none, some (.iload_n 3, 1), some (.ifCond .ne 21, 3), none, none, some (.iload 5, 2), none, some (.istore_n 2, 1), some (.iload 5, 2), none, some (.invokestatic 225, 3), none],
  [none, some (.iconst 1, 1), some (.isub, 1), some (.istore_n 3, 1), some (.iload_n 3, 1), some (.ifCond .ne 50, 3), none, none, some (.iload 4, 2), none, some (.ireturn, 1), some (.iload_n 2, 1), some (.bipush 103, 2), none, some (.if_icmp .ne 19, 3), none],
  [none, some (.iload_n 3, 1), some (.iconst 1, 1), some (.if_icmp .ne 14, 3), none, none, some (.iload 5, 2), none, some (.bipush 45, 2), none, some (.if_icmp .ne 7, 3), none, none, some (.iconst 1, 1), some (.goto 4, 3), none],
  [none, some (.iconst 0, 1), some (.istore 6, 2), none, some (.iload 5, 2), none, some (.invokestatic 414, 3), none, none, some (.ifCond .ne 11, 3), none, none, some (.iload 6, 2), none, some (.ifCond .ne 6, 3), none],
  [none, some (.iload 4, 2), none, some (.ireturn, 1), some (.iinc 3 (-1), 3), none, none, some (.iinc 4 1, 3), none, none, some (.goto (-86), 3), none, none, some (.aload_n 0, 1), some (.getfield 10, 3), none],
  [none, some (.getfield 215, 3), none, none, some (.bipush 60, 2), none, some (.if_icmp .gt 7, 3), none, none, some (.iload_n 3, 1), some (.ifCond .le 7, 3), none, none, some (.iload_n 1, 1), some (.goto 4, 3), none],
  [none, some (.iconst (-1), 1), some (.ireturn, 1)]]
set_option maxRecDepth 100000 in
theorem zDX7_yearFault : zdrows cX7_yearFault 0 zJX7_yearFault = true := by decide +kernel
def zJX7_years : List (List (Option (Instr × Nat))) := [[some (.iload_n 2, 1), some (.iconst 1, 1), some (.if_icmp .lt 9, 3), none, none, some (.iload_n 2, 1), some (.bipush 60, 2), none, some (.if_icmp .le 5, 3), none, none, some (.iconst (-1), 1), some (.ireturn, 1), some (.aload_n 0, 1), some (.getfield 33, 3), none],
  [none, some (.aload_n 0, 1), some (.getfield 26, 3), none, none, some (.invokevirtual 170, 3), none, none, some (.aload_n 0, 1), some (.iload_n 1, 1), some (.putfield 385, 3), none, none, some (.iconst 0, 1), some (.istore_n 3, 1), some (.iload_n 3, 1)],
  [some (.iload_n 2, 1), some (.if_icmp .ge 13, 3), none, none, some (.aload_n 0, 1), some (.invokevirtual 388, 3), none, none, some (.iinc 3 1, 3), none, none, some (.goto (-12), 3), none, none, some (.aload_n 0, 1), some (.getfield 61, 3)],
  [none, none, some (.aload_n 0, 1), some (.getfield 33, 3), none, none, some (.getfield 201, 3), none, none, some (.aload_n 0, 1), some (.getfield 26, 3), none, none, some (.getfield 201, 3), none, none],
  [some (.isub, 1), some (.i2l, 1), some (.aload_n 0, 1), some (.getfield 33, 3), none, none, some (.invokevirtual 164, 3), none, none, some (.i2l, 1), some (.invokevirtual 208, 3), none, none, some (.aload_n 0, 1), some (.getfield 33, 3), none],
  [none, some (.getfield 198, 3), none, none, some (.aload_n 0, 1), some (.getfield 26, 3), none, none, some (.getfield 198, 3), none, none, some (.isub, 1), some (.ireturn, 1)]]
set_option maxRecDepth 100000 in
theorem zDX7_years : zdrows cX7_years 0 zJX7_years = true := by decide +kernel
def zJX8_able : List (List (Option (Instr × Nat))) := [[some (.aload_n 0, 1), some (.iconst 0, 1), some (.putfield 114, 3), none, none, some (.iload_n 1, 1), some (.invokestatic 242, 3), none, none, some (.ifCond .ne 5, 3), none, none, some (.iconst (-1), 1), some (.ireturn, 1), some (.iconst 0, 1), some (.istore_n 2, 1)],
  [some (.aload_n 0, 1), some (.iconst 0, 1), some (.putfield 117, 3), none, none, some (.iconst 0, 1), some (.istore_n 3, 1), some (.iload_n 3, 1), some (.aload_n 0, 1), some (.getfield 120, 3), none, none, some (.if_icmp .ge 128, 3), none, none, some (.iconst (-1), 1)],
  [some (.istore 4, 2), none, some (.iconst 0, 1), some (.istore 5, 2), none, some (.iload 5, 2), none, some (.aload_n 0, 1), some (.getfield 120, 3), none, none, some (.if_icmp .ge 84, 3), none, none, some (.iload_n 2, 1), some (.iload 5, 2)],
  [none, some (.invokestatic 271, 3), none, none, some (.ifCond .ne 69, 3), none, none, some (.aload_n 0, 1), some (.getfield 9, 3), none, none, some (.bipush 16, 2), none, some (.iload 5, 2), none, some (.iadd, 1)],
  [some (.iaload, 1), some (.iconst 1, 1), some (.if_icmp .eq 55, 3), none, none, some (.aload_n 0, 1), some (.getfield 26, 3), none, none, some (.iload 5, 2), none, some (.iaload, 1), some (.iload_n 1, 1), some (.invokestatic 271, 3), none, none],
  [some (.ifCond .ne 6, 3), none, none, some (.goto 38, 3), none, none, some (.iload 4, 2), none, some (.iconst (-1), 1), some (.if_icmp .eq 28, 3), none, none, some (.aload_n 0, 1), some (.aload_n 0, 1), some (.getfield 9, 3), none],
  [none, some (.iload 5, 2), none, some (.iload_n 1, 1), some (.invokevirtual 245, 3), none, none, some (.aload_n 0, 1), some (.aload_n 0, 1), some (.getfield 9, 3), none, none, some (.iload 4, 2), none, some (.iload_n 1, 1), some (.invokevirtual 245, 3)],
  [none, none, some (.if_icmp .ge 7, 3), none, none, some (.iload 5, 2), none, some (.istore 4, 2), none, some (.iinc 5 1, 3), none, none, some (.goto (-87), 3), none, none, some (.iload 4, 2)],
  [none, some (.iconst (-1), 1), some (.if_icmp .ne 6, 3), none, none, some (.goto 17, 3), none, none, some (.aload_n 0, 1), some (.iload 4, 2), none, some (.i2l, 1), some (.invokevirtual 284, 3), none, none, some (.iload_n 2, 1)],
  [some (.iconst 1, 1), some (.iload 4, 2), none, some (.ishl, 1), some (.ior, 1), some (.istore_n 2, 1), some (.iinc 3 1, 3), none, none, some (.goto (-130), 3), none, none, some (.aload_n 0, 1), some (.getfield 117, 3), none, none],
  [some (.ireturn, 1)]]
set_option maxRecDepth 100000 in
theorem zDX8_able : zdrows cX8_able 0 zJX8_able = true := by decide +kernel
def zJX8_ableMany : List (List (Option (Instr × Nat))) := [[some (.iconst 0, 1), some (.istore_n 2, 1), some (.iconst 0, 1), some (.istore_n 3, 1), some (.iload_n 3, 1), some (.aload_n 0, 1), some (.getfield 120, 3), none, none, some (.if_icmp .ge 42, 3), none, none, some (.iload_n 2, 1), some (.aload_n 0, 1), some (.getfield 9, 3), none],
  [none, some (.bipush 16, 2), none, some (.iload_n 3, 1), some (.iadd, 1), some (.iaload, 1), some (.ifCond .ne 20, 3), none, none, some (.aload_n 0, 1), some (.getfield 26, 3), none, none, some (.iload_n 3, 1), some (.iaload, 1), some (.iload_n 1, 1)],
  [some (.invokestatic 271, 3), none, none, some (.ifCond .eq 7, 3), none, none, some (.iconst 1, 1), some (.goto 4, 3), none, none, some (.iconst 0, 1), some (.iadd, 1), some (.istore_n 2, 1), some (.iinc 3 1, 3), none, none],
  [some (.goto (-44), 3), none, none, some (.iload_n 2, 1), some (.ireturn, 1)]]
set_option maxRecDepth 100000 in
theorem zDX8_ableMany : zdrows cX8_ableMany 0 zJX8_ableMany = true := by decide +kernel
def zJX8_act : List (List (Option (Instr × Nat))) := [[some (.iload_n 1, 1), some (.lookupswitch 98 #[(103, 78), (105, 46), (110, 35)], 35), none, none, none, none, none, none, none, none, none, none, none, none, none, none],
  [none, none, none, none, none, none, none, none, none, none, none, none, none, none, none, none],
  [none, none, none, none, some (.aload_n 0, 1), some (.aload_n 0, 1), some (.getfield 9, 3), none, none, some (.iload_n 2, 1), some (.invokevirtual 280, 3), none, none, some (.iconst 1, 1), some (.ireturn, 1), some (.aload_n 0, 1)],
  [some (.iload_n 2, 1), some (.invokevirtual 127, 3), none, none, some (.ifCond .ne 5, 3), none, none, some (.iconst 0, 1), some (.ireturn, 1), some (.aload_n 0, 1), some (.getfield 9, 3), none, none, some (.bipush 16, 2), none, some (.iload_n 2, 1)],
  [some (.iadd, 1), some (.iconst 1, 1), some (.aload_n 0, 1), some (.getfield 9, 3), none, none, some (.bipush 16, 2), none, some (.iload_n 2, 1), some (.iadd, 1), some (.iaload, 1), some (.isub, 1), some (.iastore, 1), some (.iconst 1, 1), some (.ireturn, 1), some (.aload_n 0, 1)],
  [some (.iload_n 2, 1), some (.iload_n 3, 1), some (.invokevirtual 257, 3), none, none, some (.ifCond .ne 5, 3), none, none, some (.iconst 0, 1), some (.ireturn, 1), some (.aload_n 0, 1), some (.getfield 9, 3), none, none, some (.iload_n 2, 1), some (.iload_n 3, 1)],
  [some (.iastore, 1), some (.iconst 1, 1), some (.ireturn, 1), some (.aload_n 0, 1), some (.iload_n 2, 1), some (.iload_n 3, 1), some (.invokevirtual 297, 3), none, none, some (.ifCond .ne 5, 3), none, none, some (.iconst 0, 1), some (.ireturn, 1), some (.aload_n 0, 1), some (.iload_n 2, 1)],
  [some (.iload_n 3, 1), some (.invokevirtual 300, 3), none, none, some (.iconst 1, 1), some (.ireturn, 1)]]
set_option maxRecDepth 100000 in
theorem zDX8_act : zdrows cX8_act 0 zJX8_act = true := by decide +kernel
def zJX8_again : List (List (Option (Instr × Nat))) := [[some (.aload_n 0, 1), some (.iconst 0, 1), some (.putfield 114, 3), none, none, some (.iload_n 1, 1), some (.iconst 0, 1), some (.iconst 1, 1), some (.invokestatic 123, 3), none, none, some (.ifCond .eq 25, 3), none, none, some (.aload_n 0, 1), some (.getfield 108, 3)],
  [none, none, some (.iload_n 1, 1), some (.baload, 1), some (.ifCond .eq 16, 3), none, none, some (.aload_n 0, 1), some (.getfield 111, 3), none, none, some (.iload_n 1, 1), some (.iaload, 1), some (.aload_n 0, 1), some (.getfield 185, 3), none],
  [none, some (.if_icmp .eq 5, 3), none, none, some (.iconst 0, 1), some (.ireturn, 1), some (.iconst 0, 1), some (.istore_n 2, 1), some (.iload_n 2, 1), some (.bipush 27, 2), none, some (.if_icmp .ge 26, 3), none, none, some (.aload_n 0, 1), some (.getfield 9, 3)],
  [none, none, some (.iload_n 2, 1), some (.aload_n 0, 1), some (.getfield 105, 3), none, none, some (.bipush 27, 2), none, some (.iload_n 1, 1), some (.imul, 1), some (.iload_n 2, 1), some (.iadd, 1), some (.iaload, 1), some (.iastore, 1), some (.iinc 2 1, 3)],
  [none, none, some (.goto (-26), 3), none, none, some (.aload_n 0, 1), some (.iconst 0, 1), some (.putfield 182, 3), none, none, some (.iconst 1, 1), some (.ireturn, 1)]]
set_option maxRecDepth 100000 in
theorem zDX8_again : zdrows cX8_again 0 zJX8_again = true := by decide +kernel
def zJX8_areRight : List (List (Option (Instr × Nat))) := [[some (.aload_n 0, 1), some (.getfield 70, 3), none, none, some (.iload_n 1, 1), some (.iaload, 1), some (.aload_n 0, 1), some (.getfield 67, 3), none, none, some (.iload_n 1, 1), some (.iaload, 1), some (.iconst (-1), 1), some (.ixor, 1), some (.iand, 1), some (.ifCond .ne 7, 3)],
  [none, none, some (.iconst 1, 1), some (.goto 4, 3), none, none, some (.iconst 0, 1), some (.ireturn, 1)]]
set_option maxRecDepth 100000 in
theorem zDX8_areRight : zdrows cX8_areRight 0 zJX8_areRight = true := by decide +kernel
def zJX8_areTwo : List (List (Option (Instr × Nat))) := [[some (.aload_n 0, 1), some (.iload_n 1, 1), some (.invokevirtual 127, 3), none, none, some (.ifCond .eq 20, 3), none, none, some (.aload_n 0, 1), some (.iload_n 2, 1), some (.invokevirtual 127, 3), none, none, some (.ifCond .eq 12, 3), none, none],
  [some (.iload_n 1, 1), some (.iload_n 2, 1), some (.if_icmp .eq 7, 3), none, none, some (.iconst 1, 1), some (.goto 4, 3), none, none, some (.iconst 0, 1), some (.ireturn, 1)]]
set_option maxRecDepth 100000 in
theorem zDX8_areTwo : zdrows cX8_areTwo 0 zJX8_areTwo = true := by decide +kernel
def zJX8_ask : List (List (Option (Instr × Nat))) := [[some (.aload_n 0, 1), some (.iconst 0, 1), some (.putfield 114, 3), none, none, some (.aload_n 0, 1), some (.iconst (-1), 1), some (.iconst (-1), 1), some (.invokevirtual 371, 3), none, none, some (.ifCond .ne 6, 3), none, none, some (.bipush (-2), 2), none],
  [some (.ireturn, 1), some (.iconst (-1), 1), some (.istore_n 1, 1), some (.ldc 88, 2), none, some (.istore_n 2, 1), some (.iconst 0, 1), some (.istore_n 3, 1), some (.iload_n 3, 1), some (.aload_n 0, 1), some (.getfield 13, 3), none, none, some (.if_icmp .ge 58, 3), none, none],
  [some (.iconst 0, 1), some (.istore 4, 2), none, some (.iconst 0, 1), some (.istore 5, 2), none, some (.iload 5, 2), none, some (.aload_n 0, 1), some (.getfield 120, 3), none, none, some (.if_icmp .ge 23, 3), none, none, some (.iload 4, 2)],
  [none, some (.aload_n 0, 1), some (.iload_n 3, 1), some (.iload 5, 2), none, some (.invokevirtual 371, 3), none, none, some (.invokestatic 232, 3), none, none, some (.istore 4, 2), none, some (.iinc 5 1, 3), none, none],
  [some (.goto (-26), 3), none, none, some (.iload 4, 2), none, some (.iload_n 2, 1), some (.if_icmp .lt 6, 3), none, none, some (.goto 8, 3), none, none, some (.iload_n 3, 1), some (.istore_n 1, 1), some (.iload 4, 2), none],
  [some (.istore_n 2, 1), some (.iinc 3 1, 3), none, none, some (.goto (-60), 3), none, none, some (.aload_n 0, 1), some (.iconst 0, 1), some (.putfield 117, 3), none, none, some (.aload_n 0, 1), some (.iload_n 2, 1), some (.i2l, 1), some (.invokevirtual 284, 3)],
  [none, none, some (.iload_n 1, 1), some (.ireturn, 1)]]
set_option maxRecDepth 100000 in
theorem zDX8_ask : zdrows cX8_ask 0 zJX8_ask = true := by decide +kernel
def zJX8_away : List (List (Option (Instr × Nat))) := [[some (.aload_n 0, 1), some (.iconst 0, 1), some (.putfield 114, 3), none, none, some (.aload_n 0, 1), some (.invokevirtual 347, 3), none, none, some (.iconst 1, 1), some (.aload_n 0, 1), some (.getfield 120, 3), none, none, some (.ishl, 1), some (.iconst 1, 1)],
  [some (.isub, 1), some (.aload_n 0, 1), some (.aload_n 0, 1), some (.getfield 9, 3), none, none, some (.invokevirtual 261, 3), none, none, some (.iconst (-1), 1), some (.ixor, 1), some (.iand, 1), some (.istore_n 1, 1), some (.iconst (-1), 1), some (.istore_n 2, 1), some (.iconst 0, 1)],
  [some (.istore_n 3, 1), some (.iload_n 3, 1), some (.iload_n 1, 1), some (.if_icmp .gt 51, 3), none, none, some (.iload_n 3, 1), some (.iload_n 1, 1), some (.iconst (-1), 1), some (.ixor, 1), some (.iand, 1), some (.ifCond .ne 37, 3), none, none, some (.aload_n 0, 1), some (.getfield 95, 3)],
  [none, none, some (.iload_n 1, 1), some (.iload_n 3, 1), some (.iconst (-1), 1), some (.ixor, 1), some (.iand, 1), some (.baload, 1), some (.ifCond .ne 6, 3), none, none, some (.goto 21, 3), none, none, some (.iload_n 2, 1), some (.iconst (-1), 1)],
  [some (.if_icmp .eq 14, 3), none, none, some (.iload_n 3, 1), some (.invokestatic 221, 3), none, none, some (.iload_n 2, 1), some (.invokestatic 221, 3), none, none, some (.if_icmp .le 5, 3), none, none, some (.iload_n 3, 1), some (.istore_n 2, 1)],
  [some (.iinc 3 1, 3), none, none, some (.goto (-50), 3), none, none, some (.iload_n 2, 1), some (.iconst (-1), 1), some (.if_icmp .ne 6, 3), none, none, some (.bipush (-2), 2), none, some (.ireturn, 1), some (.aload_n 0, 1), some (.iconst 0, 1)],
  [some (.putfield 117, 3), none, none, some (.aload_n 0, 1), some (.iload_n 2, 1), some (.i2l, 1), some (.invokevirtual 284, 3), none, none, some (.iload_n 2, 1), some (.invokestatic 221, 3), none, none, some (.ireturn, 1)]]
set_option maxRecDepth 100000 in
theorem zDX8_away : zdrows cX8_away 0 zJX8_away = true := by decide +kernel
def zJX8_bare : List (List (Option (Instr × Nat))) := [[some (.aload_n 0, 1), some (.iconst 0, 1), some (.putfield 114, 3), none, none, some (.aload_n 0, 1), some (.iconst (-1), 1), some (.invokevirtual 335, 3), none, none, some (.aload_n 0, 1), some (.iconst 2, 1), some (.invokevirtual 329, 3), none, none, some (.pop, 1)],
  [some (.iconst (-1), 1), some (.istore_n 1, 1), some (.iconst 1, 1), some (.istore_n 2, 1), some (.iload_n 2, 1), some (.aload_n 0, 1), some (.invokevirtual 307, 3), none, none, some (.if_icmp .gt 38, 3), none, none, some (.aload_n 0, 1), some (.getfield 82, 3), none, none],
  [some (.iload_n 2, 1), some (.iaload, 1), some (.ldc 88, 2), none, some (.if_icmp .ne 21, 3), none, none, some (.iload_n 1, 1), some (.iconst (-1), 1), some (.if_icmp .eq 14, 3), none, none, some (.iload_n 2, 1), some (.invokestatic 221, 3), none, none],
  [some (.iload_n 1, 1), some (.invokestatic 221, 3), none, none, some (.if_icmp .ge 5, 3), none, none, some (.iload_n 2, 1), some (.istore_n 1, 1), some (.iinc 2 1, 3), none, none, some (.goto (-40), 3), none, none, some (.iload_n 1, 1)],
  [some (.iconst (-1), 1), some (.if_icmp .ne 6, 3), none, none, some (.bipush (-2), 2), none, some (.ireturn, 1), some (.aload_n 0, 1), some (.iconst 0, 1), some (.putfield 117, 3), none, none, some (.aload_n 0, 1), some (.iload_n 1, 1), some (.i2l, 1), some (.invokevirtual 284, 3)],
  [none, none, some (.iload_n 1, 1), some (.invokestatic 221, 3), none, none, some (.ireturn, 1)]]
set_option maxRecDepth 100000 in
theorem zDX8_bare : zdrows cX8_bare 0 zJX8_bare = true := by decide +kernel
def zJX8_begin : List (List (Option (Instr × Nat))) := [[some (.aload_n 0, 1), some (.aload_n 1, 1), some (.putfield 134, 3), none, none, some (.aload_n 0, 1), some (.iload_n 2, 1), some (.putfield 137, 3), none, none, some (.aload_n 0, 1), some (.iload_n 3, 1), some (.putfield 140, 3), none, none, some (.aload_n 0, 1)],
  [some (.iconst 0, 1), some (.putfield 143, 3), none, none, some (.aload_n 0, 1), some (.iconst (-1), 1), some (.putfield 146, 3), none, none, some (.return_, 1)]]
set_option maxRecDepth 100000 in
theorem zDX8_begin : zdrows cX8_begin 0 zJX8_begin = true := by decide +kernel
def zJX8_beginText : List (List (Option (Instr × Nat))) := [[some (.aload_n 0, 1), some (.aload_n 0, 1), some (.getfield 29, 3), none, none, some (.aload_n 0, 1), some (.getfield 131, 3), none, none, some (.iload_n 1, 1), some (.invokevirtual 149, 3), none, none, some (.aload_n 0, 1), some (.iconst 0, 1), some (.putfield 131, 3)],
  [none, none, some (.return_, 1)]]
set_option maxRecDepth 100000 in
theorem zDX8_beginText : zdrows cX8_beginText 0 zJX8_beginText = true := by decide +kernel
def zJX8_bringMay : List (List (Option (Instr × Nat))) := [[some (.iconst 0, 1), some (.istore_n 1, 1), some (.iload_n 1, 1), some (.bipush 8, 2), none, some (.if_icmp .ge 33, 3), none, none, some (.aload_n 0, 1), some (.getfield 67, 3), none, none, some (.iload_n 1, 1), some (.aload_n 0, 1), some (.getfield 73, 3), none],
  [none, some (.iload_n 1, 1), some (.iaload, 1), some (.iastore, 1), some (.aload_n 0, 1), some (.getfield 70, 3), none, none, some (.iload_n 1, 1), some (.aload_n 0, 1), some (.getfield 76, 3), none, none, some (.iload_n 1, 1), some (.iaload, 1), some (.iastore, 1)],
  [some (.iinc 1 1, 3), none, none, some (.goto (-33), 3), none, none, some (.return_, 1)]]
set_option maxRecDepth 100000 in
theorem zDX8_bringMay : zdrows cX8_bringMay 0 zJX8_bringMay = true := by decide +kernel
def zJX8_canTake : List (List (Option (Instr × Nat))) := [[some (.iload_n 2, 1), some (.invokestatic 221, 3), none, none, some (.aload_n 0, 1), some (.getfield 20, 3), none, none, some (.iload_n 1, 1), some (.iaload, 1), some (.if_icmp .gt 33, 3), none, none, some (.aload_n 0, 1), some (.getfield 70, 3), none],
  [none, some (.iload_n 1, 1), some (.iaload, 1), some (.iload_n 2, 1), some (.iconst (-1), 1), some (.ixor, 1), some (.iand, 1), some (.ifCond .ne 20, 3), none, none, some (.aload_n 0, 1), some (.iload_n 1, 1), some (.iload_n 2, 1), some (.invokevirtual 310, 3), none, none],
  [some (.aload_n 0, 1), some (.getfield 89, 3), none, none, some (.if_icmp .gt 7, 3), none, none, some (.iconst 1, 1), some (.goto 4, 3), none, none, some (.iconst 0, 1), some (.ireturn, 1)]]
set_option maxRecDepth 100000 in
theorem zDX8_canTake : zdrows cX8_canTake 0 zJX8_canTake = true := by decide +kernel
def zJX8_changes : List (List (Option (Instr × Nat))) := [[some (.aload_n 0, 1), some (.iconst 0, 1), some (.putfield 114, 3), none, none, some (.iconst 0, 1), some (.istore_n 1, 1), some (.iconst 0, 1), some (.istore_n 2, 1), some (.iconst 0, 1), some (.istore_n 3, 1), some (.iconst 1, 1), some (.istore 4, 2), none, some (.iload 4, 2), none],
  [some (.aload_n 0, 1), some (.getfield 13, 3), none, none, some (.if_icmp .ge 96, 3), none, none, some (.aload_n 0, 1), some (.getfield 9, 3), none, none, some (.iload 4, 2), none, some (.iconst 1, 1), some (.isub, 1), some (.iaload, 1)],
  [some (.istore 5, 2), none, some (.aload_n 0, 1), some (.getfield 9, 3), none, none, some (.iload 4, 2), none, some (.iaload, 1), some (.istore 6, 2), none, some (.iload 5, 2), none, some (.iconst (-1), 1), some (.if_icmp .eq 64, 3), none],
  [none, some (.iload 6, 2), none, some (.iconst (-1), 1), some (.if_icmp .eq 58, 3), none, none, some (.iload 5, 2), none, some (.iload 6, 2), none, some (.if_icmp .ne 6, 3), none, none, some (.goto 48, 3), none],
  [none, some (.aload_n 0, 1), some (.getfield 23, 3), none, none, some (.iload 5, 2), none, some (.iaload, 1), some (.aload_n 0, 1), some (.getfield 23, 3), none, none, some (.iload 6, 2), none, some (.iaload, 1), some (.isub, 1)],
  [some (.invokestatic 274, 3), none, none, some (.istore 7, 2), none, some (.iinc 1 1, 3), none, none, some (.iload_n 2, 1), some (.iload 7, 2), none, some (.aload_n 0, 1), some (.getfield 17, 3), none, none, some (.if_icmp .le 7, 3)],
  [none, none, some (.iconst 1, 1), some (.goto 4, 3), none, none, some (.iconst 0, 1), some (.iadd, 1), some (.istore_n 2, 1), some (.iload_n 3, 1), some (.iload 7, 2), none, some (.iadd, 1), some (.istore_n 3, 1), some (.iinc 4 1, 3), none],
  [none, some (.goto (-99), 3), none, none, some (.aload_n 0, 1), some (.iconst 0, 1), some (.putfield 117, 3), none, none, some (.aload_n 0, 1), some (.iload_n 2, 1), some (.i2l, 1), some (.invokevirtual 284, 3), none, none, some (.aload_n 0, 1)],
  [some (.iload_n 3, 1), some (.i2l, 1), some (.invokevirtual 284, 3), none, none, some (.iload_n 1, 1), some (.ireturn, 1)]]
set_option maxRecDepth 100000 in
theorem zDX8_changes : zdrows cX8_changes 0 zJX8_changes = true := by decide +kernel
def zJX8_common : List (List (Option (Instr × Nat))) := [[some (.lload_n 2, 1), some (.lconst 0, 1), some (.lcmp, 1), some (.ifCond .ne 7, 3), none, none, some (.lload_n 0, 1), some (.goto 10, 3), none, none, some (.lload_n 2, 1), some (.lload_n 0, 1), some (.lload_n 2, 1), some (.lrem, 1), some (.invokestatic 374, 3), none],
  [none, some (.lreturn, 1)]]
set_option maxRecDepth 100000 in
theorem zDX8_common : zdrows cX8_common 0 zJX8_common = true := by decide +kernel
def zJX8_costOf : List (List (Option (Instr × Nat))) := [[some (.iload_n 1, 1), some (.ifCond .ne 12, 3), none, none, some (.aload_n 0, 1), some (.iload_n 2, 1), some (.iload_n 3, 1), some (.invokevirtual 310, 3), none, none, some (.goto 28, 3), none, none, some (.iload_n 1, 1), some (.iconst 1, 1), some (.if_icmp .ne 22, 3)],
  [none, none, some (.iload_n 3, 1), some (.aload_n 0, 1), some (.aload_n 0, 1), some (.getfield 9, 3), none, none, some (.iload_n 2, 1), some (.invokevirtual 238, 3), none, none, some (.iconst (-1), 1), some (.ixor, 1), some (.iand, 1), some (.invokestatic 221, 3)],
  [none, none, some (.goto 4, 3), none, none, some (.iconst 0, 1), some (.ireturn, 1)]]
set_option maxRecDepth 100000 in
theorem zDX8_costOf : zdrows cX8_costOf 0 zJX8_costOf = true := by decide +kernel
def zJX8_count : List (List (Option (Instr × Nat))) := [[some (.aload_n 0, 1), some (.iconst 0, 1), some (.putfield 114, 3), none, none, some (.iload_n 1, 1), some (.bipush 20, 2), none, some (.bipush 27, 2), none, some (.invokestatic 123, 3), none, none, some (.ifCond .eq 13, 3), none, none],
  [some (.aload_n 0, 1), some (.getfield 9, 3), none, none, some (.iload_n 1, 1), some (.bipush 20, 2), none, some (.isub, 1), some (.iaload, 1), some (.ireturn, 1), some (.iload_n 1, 1), some (.tableswitch 138 0 11 #[61, 66, 71, 76, 85, 93, 101, 109, 118, 123, 128, 133], 61), none, none, none, none],
  [none, none, none, none, none, none, none, none, none, none, none, none, none, none, none, none],
  [none, none, none, none, none, none, none, none, none, none, none, none, none, none, none, none],
  [none, none, none, none, none, none, none, none, none, none, none, none, none, none, none, none],
  [none, none, none, none, none, none, none, none, some (.aload_n 0, 1), some (.getfield 13, 3), none, none, some (.ireturn, 1), some (.aload_n 0, 1), some (.getfield 17, 3), none],
  [none, some (.ireturn, 1), some (.aload_n 0, 1), some (.getfield 120, 3), none, none, some (.ireturn, 1), some (.aload_n 0, 1), some (.aload_n 0, 1), some (.getfield 9, 3), none, none, some (.invokevirtual 261, 3), none, none, some (.ireturn, 1)],
  [some (.aload_n 0, 1), some (.getfield 9, 3), none, none, some (.bipush 24, 2), none, some (.iaload, 1), some (.ireturn, 1), some (.aload_n 0, 1), some (.getfield 9, 3), none, none, some (.bipush 25, 2), none, some (.iaload, 1), some (.ireturn, 1)],
  [some (.aload_n 0, 1), some (.getfield 9, 3), none, none, some (.bipush 26, 2), none, some (.iaload, 1), some (.ireturn, 1), some (.aload_n 0, 1), some (.aload_n 0, 1), some (.getfield 9, 3), none, none, some (.invokevirtual 288, 3), none, none],
  [some (.ireturn, 1), some (.aload_n 0, 1), some (.getfield 362, 3), none, none, some (.ireturn, 1), some (.aload_n 0, 1), some (.getfield 182, 3), none, none, some (.ireturn, 1), some (.aload_n 0, 1), some (.getfield 117, 3), none, none, some (.ireturn, 1)],
  [some (.aload_n 0, 1), some (.getfield 131, 3), none, none, some (.ireturn, 1), some (.bipush (-100), 2), none, some (.ireturn, 1)]]
set_option maxRecDepth 100000 in
theorem zDX8_count : zdrows cX8_count 0 zJX8_count = true := by decide +kernel
def zJX8_countWays : List (List (Option (Instr × Nat))) := [[some (.iconst 0, 1), some (.istore_n 1, 1), some (.iload_n 1, 1), some (.aload_n 0, 1), some (.invokevirtual 307, 3), none, none, some (.if_icmp .gt 32, 3), none, none, some (.aload_n 0, 1), some (.getfield 85, 3), none, none, some (.aload_n 0, 1), some (.getfield 120, 3)],
  [none, none, some (.bipush 8, 2), none, some (.ishl, 1), some (.iload_n 1, 1), some (.ior, 1), some (.iload_n 1, 1), some (.ifCond .ne 7, 3), none, none, some (.iconst 1, 1), some (.goto 4, 3), none, none, some (.iconst 0, 1)],
  [some (.iastore, 1), some (.iinc 1 1, 3), none, none, some (.goto (-34), 3), none, none, some (.aload_n 0, 1), some (.getfield 120, 3), none, none, some (.iconst 1, 1), some (.isub, 1), some (.istore_n 1, 1), some (.iload_n 1, 1), some (.ifCond .lt 150, 3)],
  [none, none, some (.iconst 0, 1), some (.istore_n 2, 1), some (.iload_n 2, 1), some (.aload_n 0, 1), some (.invokevirtual 307, 3), none, none, some (.if_icmp .gt 21, 3), none, none, some (.aload_n 0, 1), some (.getfield 85, 3), none, none],
  [some (.iload_n 1, 1), some (.bipush 8, 2), none, some (.ishl, 1), some (.iload_n 2, 1), some (.ior, 1), some (.iconst 0, 1), some (.iastore, 1), some (.iinc 2 1, 3), none, none, some (.goto (-23), 3), none, none, some (.aload_n 0, 1), some (.getfield 67, 3)],
  [none, none, some (.iload_n 1, 1), some (.iaload, 1), some (.istore_n 2, 1), some (.iload_n 2, 1), some (.ifCond .lt 105, 3), none, none, some (.aload_n 0, 1), some (.iload_n 1, 1), some (.iload_n 2, 1), some (.invokevirtual 313, 3), none, none, some (.ifCond .ne 6, 3)],
  [none, none, some (.goto 71, 3), none, none, some (.aload_n 0, 1), some (.invokevirtual 307, 3), none, none, some (.iload_n 2, 1), some (.iconst (-1), 1), some (.ixor, 1), some (.iand, 1), some (.istore_n 3, 1), some (.iload_n 3, 1), some (.istore 4, 2)],
  [none, some (.iload 4, 2), none, some (.ifCond .lt 54, 3), none, none, some (.aload_n 0, 1), some (.getfield 85, 3), none, none, some (.iload_n 1, 1), some (.bipush 8, 2), none, some (.ishl, 1), some (.iload 4, 2), none],
  [some (.ior, 1), some (.iload_n 2, 1), some (.ior, 1), some (.dup2, 1), some (.iaload, 1), some (.aload_n 0, 1), some (.getfield 85, 3), none, none, some (.iload_n 1, 1), some (.iconst 1, 1), some (.iadd, 1), some (.bipush 8, 2), none, some (.ishl, 1), some (.iload 4, 2)],
  [none, some (.ior, 1), some (.iaload, 1), some (.iadd, 1), some (.iastore, 1), some (.iload 4, 2), none, some (.ifCond .ne 7, 3), none, none, some (.iconst (-1), 1), some (.goto 9, 3), none, none, some (.iload 4, 2), none],
  [some (.iconst 1, 1), some (.isub, 1), some (.iload_n 3, 1), some (.iand, 1), some (.istore 4, 2), none, some (.goto (-53), 3), none, none, some (.iload_n 2, 1), some (.ifCond .ne 7, 3), none, none, some (.iconst (-1), 1), some (.goto 13, 3), none],
  [none, some (.iload_n 2, 1), some (.iconst 1, 1), some (.isub, 1), some (.aload_n 0, 1), some (.getfield 67, 3), none, none, some (.iload_n 1, 1), some (.iaload, 1), some (.iand, 1), some (.istore_n 2, 1), some (.goto (-103), 3), none, none, some (.iinc 1 (-1), 3)],
  [none, none, some (.goto (-148), 3), none, none, some (.aload_n 0, 1), some (.getfield 85, 3), none, none, some (.aload_n 0, 1), some (.invokevirtual 307, 3), none, none, some (.iaload, 1), some (.ireturn, 1)]]
set_option maxRecDepth 100000 in
theorem zDX8_countWays : zdrows cX8_countWays 0 zJX8_countWays = true := by decide +kernel
def zJX8_draw : List (List (Option (Instr × Nat))) := [[some (.aload_n 0, 1), some (.aload_n 0, 1), some (.getfield 408, 3), none, none, some (.ldc_w 411, 3), none, none, some (.imul, 1), some (.sipush 12345, 3), none, none, some (.iadd, 1), some (.putfield 408, 3), none, none],
  [some (.aload_n 0, 1), some (.getfield 408, 3), none, none, some (.bipush 16, 2), none, some (.iushr, 1), some (.iload_n 1, 1), some (.irem, 1), some (.ireturn, 1)]]
set_option maxRecDepth 100000 in
theorem zDX8_draw : zdrows cX8_draw 0 zJX8_draw = true := by decide +kernel
def zJX8_easiest : List (List (Option (Instr × Nat))) := [[some (.aload_n 0, 1), some (.iconst 0, 1), some (.putfield 114, 3), none, none, some (.aload_n 0, 1), some (.iconst (-1), 1), some (.invokevirtual 338, 3), none, none, some (.istore_n 1, 1), some (.iload_n 1, 1), some (.ldc 88, 2), none, some (.if_icmp .ne 6, 3), none],
  [none, some (.bipush (-2), 2), none, some (.ireturn, 1), some (.aload_n 0, 1), some (.iconst 0, 1), some (.iload_n 1, 1), some (.invokevirtual 341, 3), none, none, some (.aload_n 0, 1), some (.invokevirtual 344, 3), none, none, some (.iload_n 1, 1), some (.ireturn, 1)]]
set_option maxRecDepth 100000 in
theorem zDX8_easiest : zdrows cX8_easiest 0 zJX8_easiest = true := by decide +kernel
def zJX8_easiestBut : List (List (Option (Instr × Nat))) := [[some (.aload_n 0, 1), some (.iload_n 1, 1), some (.invokevirtual 335, 3), none, none, some (.aload_n 0, 1), some (.iconst 0, 1), some (.invokevirtual 329, 3), none, none, some (.ireturn, 1)]]
set_option maxRecDepth 100000 in
theorem zDX8_easiestBut : zdrows cX8_easiestBut 0 zJX8_easiestBut = true := by decide +kernel
def zJX8_end : List (List (Option (Instr × Nat))) := [[some (.aload_n 0, 1), some (.iconst 0, 1), some (.putfield 114, 3), none, none, some (.iload_n 1, 1), some (.iconst 0, 1), some (.aload_n 0, 1), some (.getfield 131, 3), none, none, some (.invokestatic 123, 3), none, none, some (.ifCond .ne 5, 3), none],
  [none, some (.iconst 0, 1), some (.ireturn, 1), some (.aload_n 0, 1), some (.iload_n 1, 1), some (.putfield 131, 3), none, none, some (.iconst 1, 1), some (.ireturn, 1)]]
set_option maxRecDepth 100000 in
theorem zDX8_end : zdrows cX8_end 0 zJX8_end = true := by decide +kernel
def zJX8_fairest : List (List (Option (Instr × Nat))) := [[some (.aload_n 0, 1), some (.iconst 0, 1), some (.putfield 114, 3), none, none, some (.aload_n 0, 1), some (.iconst (-1), 1), some (.invokevirtual 335, 3), none, none, some (.iconst (-1), 1), some (.istore_n 1, 1), some (.sipush 3997, 3), none, none, some (.istore_n 2, 1)],
  [some (.iload_n 2, 1), some (.iload_n 1, 1), some (.isub, 1), some (.iconst 1, 1), some (.if_icmp .le 38, 3), none, none, some (.aload_n 0, 1), some (.iload_n 1, 1), some (.iload_n 2, 1), some (.iadd, 1), some (.iconst 2, 1), some (.idiv, 1), some (.putfield 89, 3), none, none],
  [some (.aload_n 0, 1), some (.iconst 0, 1), some (.invokevirtual 329, 3), none, none, some (.ldc 88, 2), none, some (.if_icmp .ge 11, 3), none, none, some (.aload_n 0, 1), some (.getfield 89, 3), none, none, some (.istore_n 2, 1), some (.goto (-31), 3)],
  [none, none, some (.aload_n 0, 1), some (.getfield 89, 3), none, none, some (.istore_n 1, 1), some (.goto (-39), 3), none, none, some (.aload_n 0, 1), some (.iload_n 2, 1), some (.putfield 89, 3), none, none, some (.aload_n 0, 1)],
  [some (.iconst 0, 1), some (.invokevirtual 329, 3), none, none, some (.istore_n 3, 1), some (.aload_n 0, 1), some (.ldc 88, 2), none, some (.putfield 89, 3), none, none, some (.iload_n 3, 1), some (.ldc 88, 2), none, some (.if_icmp .ne 6, 3), none],
  [none, some (.bipush (-2), 2), none, some (.ireturn, 1), some (.aload_n 0, 1), some (.iconst 0, 1), some (.putfield 117, 3), none, none, some (.aload_n 0, 1), some (.iload_n 3, 1), some (.i2l, 1), some (.invokevirtual 284, 3), none, none, some (.iload_n 2, 1)],
  [some (.ireturn, 1)]]
set_option maxRecDepth 100000 in
theorem zDX8_fairest : zdrows cX8_fairest 0 zJX8_fairest = true := by decide +kernel
def zJX8_fault : List (List (Option (Instr × Nat))) := [[some (.aload_n 0, 1), some (.invokevirtual 153, 3), none, none, some (.ifCond .eq 8, 3), none, none, some (.aload_n 0, 1), some (.iload_n 1, 1), some (.putfield 146, 3), none, none, some (.return_, 1)]]
set_option maxRecDepth 100000 in
theorem zDX8_fault : zdrows cX8_fault 0 zJX8_fault = true := by decide +kernel
def zJX8_fewest : List (List (Option (Instr × Nat))) := [[some (.aload_n 0, 1), some (.iconst 0, 1), some (.putfield 114, 3), none, none, some (.aload_n 0, 1), some (.invokevirtual 347, 3), none, none, some (.iconst (-1), 1), some (.istore_n 1, 1), some (.iconst 0, 1), some (.istore_n 2, 1), some (.iload_n 2, 1), some (.iconst 1, 1), some (.aload_n 0, 1)],
  [some (.getfield 120, 3), none, none, some (.ishl, 1), some (.if_icmp .ge 36, 3), none, none, some (.aload_n 0, 1), some (.getfield 95, 3), none, none, some (.iload_n 2, 1), some (.baload, 1), some (.ifCond .eq 21, 3), none, none],
  [some (.iload_n 1, 1), some (.iconst (-1), 1), some (.if_icmp .eq 14, 3), none, none, some (.iload_n 2, 1), some (.invokestatic 221, 3), none, none, some (.iload_n 1, 1), some (.invokestatic 221, 3), none, none, some (.if_icmp .ge 5, 3), none, none],
  [some (.iload_n 2, 1), some (.istore_n 1, 1), some (.iinc 2 1, 3), none, none, some (.goto (-40), 3), none, none, some (.iload_n 1, 1), some (.iconst (-1), 1), some (.if_icmp .ne 6, 3), none, none, some (.bipush (-2), 2), none, some (.ireturn, 1)],
  [some (.aload_n 0, 1), some (.iconst 0, 1), some (.putfield 117, 3), none, none, some (.aload_n 0, 1), some (.iload_n 1, 1), some (.i2l, 1), some (.invokevirtual 284, 3), none, none, some (.iload_n 1, 1), some (.invokestatic 221, 3), none, none, some (.ireturn, 1)]]
set_option maxRecDepth 100000 in
theorem zDX8_fewest : zdrows cX8_fewest 0 zJX8_fewest = true := by decide +kernel
def zJX8_fine : List (List (Option (Instr × Nat))) := [[some (.aload_n 0, 1), some (.getfield 146, 3), none, none, some (.iconst (-1), 1), some (.if_icmp .ne 7, 3), none, none, some (.iconst 1, 1), some (.goto 4, 3), none, none, some (.iconst 0, 1), some (.ireturn, 1)]]
set_option maxRecDepth 100000 in
theorem zDX8_fine : zdrows cX8_fine 0 zJX8_fine = true := by decide +kernel
def zJX8_first : List (List (Option (Instr × Nat))) := [[some (.aload_n 0, 1), some (.iconst 0, 1), some (.putfield 114, 3), none, none, some (.iload_n 1, 1), some (.iconst 1, 1), some (.bipush 60, 2), none, some (.invokestatic 123, 3), none, none, some (.ifCond .ne 5, 3), none, none, some (.iconst (-1), 1)],
  [some (.ireturn, 1), some (.aload_n 0, 1), some (.getfield 9, 3), none, none, some (.aload_n 0, 1), some (.getfield 55, 3), none, none, some (.iconst 0, 1), some (.invokestatic 249, 3), none, none, some (.iconst 0, 1), some (.istore_n 2, 1), some (.iload_n 2, 1)],
  [some (.iload_n 1, 1), some (.if_icmp .ge 46, 3), none, none, some (.aload_n 0, 1), some (.aload_n 0, 1), some (.getfield 55, 3), none, none, some (.invokevirtual 277, 3), none, none, some (.aload_n 0, 1), some (.getfield 265, 3), none, none],
  [some (.ifCond .ne 6, 3), none, none, some (.goto 22, 3), none, none, some (.aload_n 0, 1), some (.iconst 0, 1), some (.putfield 117, 3), none, none, some (.aload_n 0, 1), some (.aload_n 0, 1), some (.getfield 265, 3), none, none],
  [some (.invokestatic 304, 3), none, none, some (.i2l, 1), some (.invokevirtual 284, 3), none, none, some (.iload_n 2, 1), some (.ireturn, 1), some (.iinc 2 1, 3), none, none, some (.goto (-45), 3), none, none, some (.bipush (-2), 2)],
  [none, some (.ireturn, 1)]]
set_option maxRecDepth 100000 in
theorem zDX8_first : zdrows cX8_first 0 zJX8_first = true := by decide +kernel
def zJX8_firstGets : List (List (Option (Instr × Nat))) := [[some (.iload_n 0, 1), some (.iload_n 1, 1), some (.if_icmp .lt 9, 3), none, none, some (.iload_n 2, 1), some (.iload_n 1, 1), some (.isub, 1), some (.goto 4, 3), none, none, some (.iconst 0, 1), some (.ireturn, 1)]]
set_option maxRecDepth 100000 in
theorem zDX8_firstGets : zdrows cX8_firstGets 0 zJX8_firstGets = true := by decide +kernel
def zJX8_fits : List (List (Option (Instr × Nat))) := [[some (.aload_n 0, 1), some (.iconst 0, 1), some (.putfield 114, 3), none, none, some (.aload_n 0, 1), some (.iconst (-1), 1), some (.iconst (-1), 1), some (.invokevirtual 371, 3), none, none, some (.istore_n 1, 1), some (.aload_n 0, 1), some (.iconst 0, 1), some (.putfield 117, 3), none],
  [none, some (.iload_n 1, 1), some (.ifCond .ne 7, 3), none, none, some (.iconst 0, 1), some (.goto 7, 3), none, none, some (.aload_n 0, 1), some (.invokevirtual 353, 3), none, none, some (.ireturn, 1)]]
set_option maxRecDepth 100000 in
theorem zDX8_fits : zdrows cX8_fits 0 zJX8_fits = true := by decide +kernel
def zJX8_fitting : List (List (Option (Instr × Nat))) := [[some (.aload_n 0, 1), some (.invokevirtual 368, 3), none, none, some (.iload_n 1, 1), some (.iconst (-1), 1), some (.if_icmp .eq 9, 3), none, none, some (.aload_n 0, 1), some (.iload_n 1, 1), some (.iload_n 2, 1), some (.invokevirtual 323, 3), none, none, some (.iconst 0, 1)],
  [some (.istore_n 3, 1), some (.iload_n 3, 1), some (.aload_n 0, 1), some (.getfield 120, 3), none, none, some (.if_icmp .ge 19, 3), none, none, some (.aload_n 0, 1), some (.iload_n 3, 1), some (.invokevirtual 326, 3), none, none, some (.ifCond .ne 5, 3), none],
  [none, some (.iconst 0, 1), some (.ireturn, 1), some (.iinc 3 1, 3), none, none, some (.goto (-21), 3), none, none, some (.aload_n 0, 1), some (.invokevirtual 350, 3), none, none, some (.ireturn, 1)]]
set_option maxRecDepth 100000 in
theorem zDX8_fitting : zdrows cX8_fitting 0 zJX8_fitting = true := by decide +kernel
def zJX8_fix : List (List (Option (Instr × Nat))) := [[some (.iconst 0, 1), some (.istore_n 3, 1), some (.iload_n 3, 1), some (.aload_n 0, 1), some (.getfield 120, 3), none, none, some (.if_icmp .ge 28, 3), none, none, some (.iload_n 3, 1), some (.iload_n 2, 1), some (.if_icmp .eq 17, 3), none, none, some (.aload_n 0, 1)],
  [some (.getfield 67, 3), none, none, some (.iload_n 3, 1), some (.dup2, 1), some (.iaload, 1), some (.iconst 1, 1), some (.iload_n 1, 1), some (.ishl, 1), some (.iconst (-1), 1), some (.ixor, 1), some (.iand, 1), some (.iastore, 1), some (.iinc 3 1, 3), none, none],
  [some (.goto (-30), 3), none, none, some (.aload_n 0, 1), some (.getfield 70, 3), none, none, some (.iload_n 2, 1), some (.dup2, 1), some (.iaload, 1), some (.iconst 1, 1), some (.iload_n 1, 1), some (.ishl, 1), some (.ior, 1), some (.iastore, 1), some (.return_, 1)]]
set_option maxRecDepth 100000 in
theorem zDX8_fix : zdrows cX8_fix 0 zJX8_fix = true := by decide +kernel
def zJX8_forget : List (List (Option (Instr × Nat))) := [[some (.aload_n 0, 1), some (.iconst 0, 1), some (.putfield 114, 3), none, none, some (.aload_n 0, 1), some (.getfield 362, 3), none, none, some (.istore_n 1, 1), some (.aload_n 0, 1), some (.iconst 0, 1), some (.putfield 362, 3), none, none, some (.iload_n 1, 1)],
  [some (.ireturn, 1)]]
set_option maxRecDepth 100000 in
theorem zDX8_forget : zdrows cX8_forget 0 zJX8_forget = true := by decide +kernel
def zJX8_found : List (List (Option (Instr × Nat))) := [[some (.aload_n 0, 1), some (.iconst 0, 1), some (.putfield 114, 3), none, none, some (.iload_n 1, 1), some (.invokestatic 242, 3), none, none, some (.ifCond .eq 29, 3), none, none, some (.aload_n 0, 1), some (.iload_n 2, 1), some (.invokevirtual 127, 3), none],
  [none, some (.ifCond .eq 21, 3), none, none, some (.iload_n 3, 1), some (.iconst 0, 1), some (.iconst 1, 1), some (.invokestatic 123, 3), none, none, some (.ifCond .eq 12, 3), none, none, some (.aload_n 0, 1), some (.getfield 362, 3), none],
  [none, some (.bipush 12, 2), none, some (.if_icmp .ne 5, 3), none, none, some (.iconst (-1), 1), some (.ireturn, 1), some (.aload_n 0, 1), some (.getfield 99, 3), none, none, some (.aload_n 0, 1), some (.getfield 362, 3), none, none],
  [some (.iload_n 1, 1), some (.iastore, 1), some (.aload_n 0, 1), some (.getfield 102, 3), none, none, some (.aload_n 0, 1), some (.getfield 362, 3), none, none, some (.iload_n 2, 1), some (.iastore, 1), some (.aload_n 0, 1), some (.aload_n 0, 1), some (.getfield 365, 3), none],
  [none, some (.iconst 1, 1), some (.aload_n 0, 1), some (.getfield 362, 3), none, none, some (.ishl, 1), some (.iconst (-1), 1), some (.ixor, 1), some (.iand, 1), some (.iload_n 3, 1), some (.aload_n 0, 1), some (.getfield 362, 3), none, none, some (.ishl, 1)],
  [some (.ior, 1), some (.putfield 365, 3), none, none, some (.aload_n 0, 1), some (.dup, 1), some (.getfield 362, 3), none, none, some (.iconst 1, 1), some (.iadd, 1), some (.putfield 362, 3), none, none, some (.aload_n 0, 1), some (.getfield 362, 3)],
  [none, none, some (.ireturn, 1)]]
set_option maxRecDepth 100000 in
theorem zDX8_found : zdrows cX8_found 0 zJX8_found = true := by decide +kernel
def zJX8_gaps : List (List (Option (Instr × Nat))) := [[some (.aload_n 0, 1), some (.iconst 0, 1), some (.putfield 114, 3), none, none, some (.aload_n 0, 1), some (.getfield 9, 3), none, none, some (.aload_n 0, 1), some (.getfield 55, 3), none, none, some (.iconst 0, 1), some (.invokestatic 249, 3), none],
  [none, some (.aload_n 0, 1), some (.aload_n 0, 1), some (.getfield 55, 3), none, none, some (.invokevirtual 277, 3), none, none, some (.aload_n 0, 1), some (.iconst 0, 1), some (.putfield 117, 3), none, none, some (.aload_n 0, 1), some (.aload_n 0, 1)],
  [some (.getfield 265, 3), none, none, some (.invokestatic 221, 3), none, none, some (.i2l, 1), some (.invokevirtual 284, 3), none, none, some (.aload_n 0, 1), some (.aload_n 0, 1), some (.getfield 268, 3), none, none, some (.i2l, 1)],
  [some (.invokevirtual 284, 3), none, none, some (.aload_n 0, 1), some (.getfield 265, 3), none, none, some (.ireturn, 1)]]
set_option maxRecDepth 100000 in
theorem zDX8_gaps : zdrows cX8_gaps 0 zJX8_gaps = true := by decide +kernel
def zJX8_give : List (List (Option (Instr × Nat))) := [[some (.aload_n 0, 1), some (.iconst 0, 1), some (.putfield 114, 3), none, none, some (.aload_n 0, 1), some (.iload_n 1, 1), some (.iload_n 2, 1), some (.invokevirtual 257, 3), none, none, some (.ifCond .ne 6, 3), none, none, some (.bipush (-2), 2), none],
  [some (.ireturn, 1), some (.aload_n 0, 1), some (.aload_n 0, 1), some (.getfield 9, 3), none, none, some (.invokevirtual 253, 3), none, none, some (.aload_n 0, 1), some (.getfield 9, 3), none, none, some (.iload_n 1, 1), some (.iaload, 1), some (.istore_n 3, 1)],
  [some (.aload_n 0, 1), some (.getfield 9, 3), none, none, some (.iload_n 1, 1), some (.iload_n 2, 1), some (.iastore, 1), some (.iload_n 3, 1), some (.ireturn, 1)]]
set_option maxRecDepth 100000 in
theorem zDX8_give : zdrows cX8_give 0 zJX8_give = true := by decide +kernel
def zJX8_goExchange : List (List (Option (Instr × Nat))) := [[some (.iconst 0, 1), some (.istore_n 3, 1), some (.iload_n 3, 1), some (.bipush 8, 2), none, some (.if_icmp .ge 49, 3), none, none, some (.aload_n 0, 1), some (.getfield 9, 3), none, none, some (.iload_n 3, 1), some (.aload_n 0, 1), some (.getfield 9, 3), none],
  [none, some (.iload_n 3, 1), some (.iaload, 1), some (.iload_n 1, 1), some (.if_icmp .ne 7, 3), none, none, some (.iload_n 2, 1), some (.goto 23, 3), none, none, some (.aload_n 0, 1), some (.getfield 9, 3), none, none, some (.iload_n 3, 1)],
  [some (.iaload, 1), some (.iload_n 2, 1), some (.if_icmp .ne 7, 3), none, none, some (.iload_n 1, 1), some (.goto 9, 3), none, none, some (.aload_n 0, 1), some (.getfield 9, 3), none, none, some (.iload_n 3, 1), some (.iaload, 1), some (.iastore, 1)],
  [some (.iinc 3 1, 3), none, none, some (.goto (-49), 3), none, none, some (.return_, 1)]]
set_option maxRecDepth 100000 in
theorem zDX8_goExchange : zdrows cX8_goExchange 0 zJX8_goExchange = true := by decide +kernel
def zJX8_goNight : List (List (Option (Instr × Nat))) := [[some (.aload_n 0, 1), some (.iconst 0, 1), some (.putfield 265, 3), none, none, some (.aload_n 0, 1), some (.iconst 0, 1), some (.putfield 268, 3), none, none, some (.iconst 0, 1), some (.istore_n 2, 1), some (.iload_n 2, 1), some (.bipush 8, 2), none, some (.if_icmp .ge 23, 3)],
  [none, none, some (.aload_n 0, 1), some (.getfield 58, 3), none, none, some (.iload_n 2, 1), some (.iconst 0, 1), some (.iastore, 1), some (.aload_n 0, 1), some (.getfield 61, 3), none, none, some (.iload_n 2, 1), some (.iconst 0, 1), some (.iastore, 1)],
  [some (.iinc 2 1, 3), none, none, some (.goto (-23), 3), none, none, some (.iconst (-1), 1), some (.istore_n 2, 1), some (.iconst 0, 1), some (.istore_n 3, 1), some (.iload_n 3, 1), some (.aload_n 0, 1), some (.getfield 13, 3), none, none, some (.if_icmp .ge 188, 3)],
  [none, none, some (.aload_n 1, 1), some (.iload_n 3, 1), some (.iaload, 1), some (.istore 4, 2), none, some (.iload 4, 2), none, some (.iconst (-1), 1), some (.if_icmp .eq 48, 3), none, none, some (.aload_n 0, 1), some (.getfield 26, 3), none],
  [none, some (.iload 4, 2), none, some (.iaload, 1), some (.iload_n 3, 1), some (.invokestatic 271, 3), none, none, some (.ifCond .eq 34, 3), none, none, some (.aload_n 1, 1), some (.bipush 16, 2), none, some (.iload 4, 2), none],
  [some (.iadd, 1), some (.iaload, 1), some (.ifCond .ne 24, 3), none, none, some (.aload_n 0, 1), some (.getfield 58, 3), none, none, some (.iload 4, 2), none, some (.iaload, 1), some (.aload_n 0, 1), some (.getfield 20, 3), none, none],
  [some (.iload 4, 2), none, some (.iaload, 1), some (.if_icmp .ge 7, 3), none, none, some (.iconst 1, 1), some (.goto 4, 3), none, none, some (.iconst 0, 1), some (.istore 5, 2), none, some (.iload 5, 2), none, some (.ifCond .eq 94, 3)],
  [none, none, some (.aload_n 0, 1), some (.getfield 58, 3), none, none, some (.iload 4, 2), none, some (.dup2, 1), some (.iaload, 1), some (.iconst 1, 1), some (.iadd, 1), some (.iastore, 1), some (.aload_n 0, 1), some (.getfield 61, 3), none],
  [none, some (.iload 4, 2), none, some (.dup2, 1), some (.iaload, 1), some (.aload_n 0, 1), some (.aload_n 1, 1), some (.iload 4, 2), none, some (.iload_n 3, 1), some (.invokevirtual 245, 3), none, none, some (.iadd, 1), some (.iastore, 1), some (.aload_n 0, 1)],
  [some (.dup, 1), some (.getfield 268, 3), none, none, some (.iconst 1, 1), some (.iload_n 3, 1), some (.ishl, 1), some (.ior, 1), some (.putfield 268, 3), none, none, some (.iload_n 2, 1), some (.iconst (-1), 1), some (.if_icmp .eq 60, 3), none, none],
  [some (.iload_n 2, 1), some (.iload 4, 2), none, some (.if_icmp .eq 54, 3), none, none, some (.aload_n 0, 1), some (.getfield 23, 3), none, none, some (.iload_n 2, 1), some (.iaload, 1), some (.aload_n 0, 1), some (.getfield 23, 3), none, none],
  [some (.iload 4, 2), none, some (.iaload, 1), some (.isub, 1), some (.invokestatic 274, 3), none, none, some (.aload_n 0, 1), some (.getfield 17, 3), none, none, some (.if_icmp .le 30, 3), none, none, some (.aload_n 0, 1), some (.dup, 1)],
  [some (.getfield 265, 3), none, none, some (.iconst 1, 1), some (.iload_n 3, 1), some (.ishl, 1), some (.ior, 1), some (.putfield 265, 3), none, none, some (.goto 15, 3), none, none, some (.aload_n 0, 1), some (.dup, 1), some (.getfield 265, 3)],
  [none, none, some (.iconst 1, 1), some (.iload_n 3, 1), some (.ishl, 1), some (.ior, 1), some (.putfield 265, 3), none, none, some (.iload 5, 2), none, some (.ifCond .eq 8, 3), none, none, some (.iload 4, 2), none],
  [some (.goto 4, 3), none, none, some (.iconst (-1), 1), some (.istore_n 2, 1), some (.iinc 3 1, 3), none, none, some (.goto (-190), 3), none, none, some (.iconst 0, 1), some (.istore_n 3, 1), some (.iload_n 3, 1), some (.aload_n 0, 1), some (.getfield 120, 3)],
  [none, none, some (.if_icmp .ge 57, 3), none, none, some (.aload_n 1, 1), some (.bipush 8, 2), none, some (.iload_n 3, 1), some (.iadd, 1), some (.aload_n 0, 1), some (.getfield 58, 3), none, none, some (.iload_n 3, 1), some (.iaload, 1)],
  [some (.ifCond .ne 18, 3), none, none, some (.iconst 0, 1), some (.aload_n 1, 1), some (.bipush 8, 2), none, some (.iload_n 3, 1), some (.iadd, 1), some (.iaload, 1), some (.iconst 5, 1), some (.isub, 1), some (.invokestatic 232, 3), none, none, some (.goto 21, 3)],
  [none, none, some (.bipush 99, 2), none, some (.aload_n 1, 1), some (.bipush 8, 2), none, some (.iload_n 3, 1), some (.iadd, 1), some (.iaload, 1), some (.aload_n 0, 1), some (.getfield 61, 3), none, none, some (.iload_n 3, 1), some (.iaload, 1)],
  [some (.iadd, 1), some (.invokestatic 226, 3), none, none, some (.iastore, 1), some (.iinc 3 1, 3), none, none, some (.goto (-59), 3), none, none, some (.aload_n 1, 1), some (.bipush 25, 2), none, some (.dup2, 1), some (.iaload, 1)],
  [some (.aload_n 0, 1), some (.getfield 265, 3), none, none, some (.invokestatic 221, 3), none, none, some (.iadd, 1), some (.iastore, 1), some (.aload_n 1, 1), some (.bipush 26, 2), none, some (.dup2, 1), some (.iaload, 1), some (.aload_n 0, 1), some (.getfield 268, 3)],
  [none, none, some (.invokestatic 221, 3), none, none, some (.iadd, 1), some (.iastore, 1), some (.aload_n 1, 1), some (.bipush 24, 2), none, some (.dup2, 1), some (.iaload, 1), some (.iconst 1, 1), some (.iadd, 1), some (.iastore, 1), some (.return_, 1)]]
set_option maxRecDepth 100000 in
theorem zDX8_goNight : zdrows cX8_goNight 0 zJX8_goNight = true := by decide +kernel
def zJX8_goNights : List (List (Option (Instr × Nat))) := [[some (.iconst 0, 1), some (.istore_n 3, 1), some (.iload_n 3, 1), some (.iload_n 2, 1), some (.if_icmp .ge 14, 3), none, none, some (.aload_n 0, 1), some (.aload_n 1, 1), some (.invokevirtual 277, 3), none, none, some (.iinc 3 1, 3), none, none, some (.goto (-13), 3)],
  [none, none, some (.return_, 1)]]
set_option maxRecDepth 100000 in
theorem zDX8_goNights : zdrows cX8_goNights 0 zJX8_goNights = true := by decide +kernel
def zJX8_goSmooth : List (List (Option (Instr × Nat))) := [[some (.iload_n 1, 1), some (.aload_n 0, 1), some (.getfield 13, 3), none, none, some (.if_icmp .ne 5, 3), none, none, some (.iconst 1, 1), some (.ireturn, 1), some (.iconst 0, 1), some (.istore_n 3, 1), some (.iload_n 3, 1), some (.aload_n 0, 1), some (.getfield 120, 3), none],
  [none, some (.if_icmp .ge 129, 3), none, none, some (.aload_n 0, 1), some (.getfield 67, 3), none, none, some (.iload_n 3, 1), some (.iaload, 1), some (.iload_n 1, 1), some (.invokestatic 271, 3), none, none, some (.ifCond .eq 110, 3), none],
  [none, some (.aload_n 0, 1), some (.getfield 58, 3), none, none, some (.iload_n 3, 1), some (.iaload, 1), some (.aload_n 0, 1), some (.getfield 20, 3), none, none, some (.iload_n 3, 1), some (.iaload, 1), some (.if_icmp .ne 6, 3), none, none],
  [some (.goto 92, 3), none, none, some (.iload_n 1, 1), some (.ifCond .ne 7, 3), none, none, some (.iconst 0, 1), some (.goto 26, 3), none, none, some (.aload_n 0, 1), some (.getfield 23, 3), none, none, some (.iload_n 3, 1)],
  [some (.iaload, 1), some (.aload_n 0, 1), some (.getfield 23, 3), none, none, some (.aload_n 0, 1), some (.getfield 92, 3), none, none, some (.iload_n 1, 1), some (.iconst 1, 1), some (.isub, 1), some (.iaload, 1), some (.iaload, 1), some (.isub, 1), some (.invokestatic 274, 3)],
  [none, none, some (.istore 4, 2), none, some (.iload 4, 2), none, some (.iload_n 2, 1), some (.if_icmp .le 6, 3), none, none, some (.goto 50, 3), none, none, some (.aload_n 0, 1), some (.getfield 92, 3), none],
  [none, some (.iload_n 1, 1), some (.iload_n 3, 1), some (.iastore, 1), some (.aload_n 0, 1), some (.getfield 58, 3), none, none, some (.iload_n 3, 1), some (.dup2, 1), some (.iaload, 1), some (.iconst 1, 1), some (.iadd, 1), some (.iastore, 1), some (.aload_n 0, 1), some (.iload_n 1, 1)],
  [some (.iconst 1, 1), some (.iadd, 1), some (.iload_n 2, 1), some (.iload 4, 2), none, some (.isub, 1), some (.invokevirtual 359, 3), none, none, some (.istore 5, 2), none, some (.aload_n 0, 1), some (.getfield 58, 3), none, none, some (.iload_n 3, 1)],
  [some (.dup2, 1), some (.iaload, 1), some (.iconst 1, 1), some (.isub, 1), some (.iastore, 1), some (.iload 5, 2), none, some (.ifCond .eq 5, 3), none, none, some (.iconst 1, 1), some (.ireturn, 1), some (.iinc 3 1, 3), none, none, some (.goto (-131), 3)],
  [none, none, some (.iconst 0, 1), some (.ireturn, 1)]]
set_option maxRecDepth 100000 in
theorem zDX8_goSmooth : zdrows cX8_goSmooth 0 zJX8_goSmooth = true := by decide +kernel
def zJX8_hard : List (List (Option (Instr × Nat))) := [[some (.aload_n 0, 1), some (.iconst 0, 1), some (.putfield 114, 3), none, none, some (.aload_n 0, 1), some (.iload_n 1, 1), some (.invokevirtual 127, 3), none, none, some (.ifCond .eq 23, 3), none, none, some (.iload_n 2, 1), some (.invokestatic 242, 3), none],
  [none, some (.ifCond .eq 16, 3), none, none, some (.aload_n 0, 1), some (.aload_n 0, 1), some (.getfield 9, 3), none, none, some (.iload_n 1, 1), some (.iload_n 2, 1), some (.invokevirtual 245, 3), none, none, some (.goto 4, 3), none],
  [none, some (.iconst (-1), 1), some (.ireturn, 1)]]
set_option maxRecDepth 100000 in
theorem zDX8_hard : zdrows cX8_hard 0 zJX8_hard = true := by decide +kernel
def zJX8_hardBy : List (List (Option (Instr × Nat))) := [[some (.iconst 0, 1), some (.istore_n 3, 1), some (.iconst 0, 1), some (.istore 4, 2), none, some (.iload 4, 2), none, some (.bipush 8, 2), none, some (.if_icmp .ge 37, 3), none, none, some (.iload_n 3, 1), some (.iload_n 2, 1), some (.iload 4, 2), none],
  [some (.invokestatic 271, 3), none, none, some (.ifCond .eq 18, 3), none, none, some (.aload_n 0, 1), some (.getfield 79, 3), none, none, some (.bipush 8, 2), none, some (.iload_n 1, 1), some (.imul, 1), some (.iload 4, 2), none],
  [some (.iadd, 1), some (.iaload, 1), some (.goto 4, 3), none, none, some (.iconst 0, 1), some (.iadd, 1), some (.istore_n 3, 1), some (.iinc 4 1, 3), none, none, some (.goto (-38), 3), none, none, some (.iload_n 3, 1), some (.ireturn, 1)]]
set_option maxRecDepth 100000 in
theorem zDX8_hardBy : zdrows cX8_hardBy 0 zJX8_hardBy = true := by decide +kernel
def zJX8_hardOf : List (List (Option (Instr × Nat))) := [[some (.aload_n 1, 1), some (.bipush 8, 2), none, some (.iload_n 2, 1), some (.iadd, 1), some (.iaload, 1), some (.aload_n 0, 1), some (.getfield 23, 3), none, none, some (.iload_n 2, 1), some (.iaload, 1), some (.iadd, 1), some (.iload_n 3, 1), some (.iconst 5, 1), some (.if_icmp .le 8, 3)],
  [none, none, some (.bipush 9, 2), none, some (.goto 4, 3), none, none, some (.iconst 0, 1), some (.iadd, 1), some (.istore 4, 2), none, some (.aload_n 0, 1), some (.getfield 218, 3), none, none, some (.ifCond .le 113, 3)],
  [none, none, some (.aload_n 0, 1), some (.getfield 46, 3), none, none, some (.iconst 0, 1), some (.iload_n 3, 1), some (.iastore, 1), some (.aload_n 0, 1), some (.getfield 46, 3), none, none, some (.iconst 1, 1), some (.aload_n 1, 1), some (.bipush 8, 2)],
  [none, some (.iload_n 2, 1), some (.iadd, 1), some (.iaload, 1), some (.iastore, 1), some (.aload_n 0, 1), some (.getfield 46, 3), none, none, some (.iconst 2, 1), some (.aload_n 0, 1), some (.getfield 23, 3), none, none, some (.iload_n 2, 1), some (.iaload, 1)],
  [some (.iastore, 1), some (.aload_n 0, 1), some (.getfield 46, 3), none, none, some (.iconst 3, 1), some (.aload_n 0, 1), some (.getfield 20, 3), none, none, some (.iload_n 2, 1), some (.iaload, 1), some (.iastore, 1), some (.aload_n 0, 1), some (.getfield 46, 3), none],
  [none, some (.iconst 4, 1), some (.iload_n 2, 1), some (.iastore, 1), some (.aload_n 0, 1), some (.getfield 46, 3), none, none, some (.iconst 5, 1), some (.aload_n 1, 1), some (.bipush 24, 2), none, some (.iaload, 1), some (.bipush 7, 2), none, some (.irem, 1)],
  [some (.iastore, 1), some (.aload_n 0, 1), some (.getfield 46, 3), none, none, some (.bipush 6, 2), none, some (.aload_n 0, 1), some (.getfield 26, 3), none, none, some (.iload_n 2, 1), some (.iaload, 1), some (.invokestatic 221, 3), none, none],
  [some (.iastore, 1), some (.aload_n 0, 1), some (.aload_n 0, 1), some (.getfield 40, 3), none, none, some (.aload_n 0, 1), some (.getfield 218, 3), none, none, some (.bipush 40, 2), none, some (.invokevirtual 149, 3), none, none, some (.aload_n 0, 1)],
  [some (.iconst 1, 1), some (.putfield 211, 3), none, none, some (.aload_n 0, 1), some (.iconst 0, 1), some (.invokevirtual 198, 3), none, none, some (.istore 4, 2), none, some (.aload_n 0, 1), some (.iconst 0, 1), some (.putfield 211, 3), none, none],
  [some (.iconst 0, 1), some (.sipush 999, 3), none, none, some (.iload 4, 2), none, some (.invokestatic 226, 3), none, none, some (.invokestatic 232, 3), none, none, some (.ireturn, 1)]]
set_option maxRecDepth 100000 in
theorem zDX8_hardOf : zdrows cX8_hardOf 0 zJX8_hardOf = true := by decide +kernel
