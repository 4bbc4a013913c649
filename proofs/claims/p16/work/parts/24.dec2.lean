def zJX7_hardestOf : List (List (Option (Instr × Nat))) := [[some (.iconst 0, 1), some (.istore_n 2, 1), some (.iconst 0, 1), some (.istore_n 3, 1), some (.iload_n 3, 1), some (.bipush 8, 2), none, some (.if_icmp .ge 37, 3), none, none, some (.aload_n 0, 1), some (.getfield 19, 3), none, none, some (.getfield 122, 3), none],
  [none, some (.iload_n 1, 1), some (.iaload, 1), some (.iload_n 3, 1), some (.ishr, 1), some (.iconst 1, 1), some (.iand, 1), some (.iconst 1, 1), some (.if_icmp .ne 14, 3), none, none, some (.iload_n 2, 1), some (.aload_n 0, 1), some (.iload_n 1, 1), some (.iload_n 3, 1), some (.invokevirtual 137, 3)],
  [none, none, some (.invokestatic 323, 3), none, none, some (.istore_n 2, 1), some (.iinc 3 1, 3), none, none, some (.goto (-37), 3), none, none, some (.iload_n 2, 1), some (.ireturn, 1)]]
set_option maxRecDepth 100000 in
theorem zDX7_hardestOf : zdrows cX7_hardestOf 0 zJX7_hardestOf = true := by decide +kernel
def zJX7_held : List (List (Option (Instr × Nat))) := [[some (.iload_n 1, 1), some (.ifCond .lt 9, 3), none, none, some (.iload_n 1, 1), some (.bipush 10, 2), none, some (.if_icmp .le 5, 3), none, none, some (.iconst (-1), 1), some (.ireturn, 1), some (.aload_n 0, 1), some (.iconst (-1), 1), some (.invokevirtual 268, 3), none],
  [none, some (.aload_n 0, 1), some (.getfield 54, 3), none, none, some (.invokevirtual 367, 3), none, none, some (.aload_n 0, 1), some (.aload_n 0, 1), some (.aload_n 0, 1), some (.invokevirtual 313, 3), none, none, some (.iload_n 1, 1), some (.invokevirtual 370, 3)],
  [none, none, some (.bipush 10, 2), none, some (.aload_n 0, 1), some (.invokevirtual 313, 3), none, none, some (.invokestatic 193, 3), none, none, some (.invokestatic 374, 3), none, none, some (.invokevirtual 358, 3), none],
  [none, some (.iconst 0, 1), some (.ireturn, 1)]]
set_option maxRecDepth 100000 in
theorem zDX7_held : zdrows cX7_held 0 zJX7_held = true := by decide +kernel
def zJX7_ill : List (List (Option (Instr × Nat))) := [[some (.aload_n 0, 1), some (.getfield 19, 3), none, none, some (.iload_n 1, 1), some (.invokevirtual 110, 3), none, none, some (.ifCond .ne 5, 3), none, none, some (.iconst (-1), 1), some (.ireturn, 1), some (.aload_n 0, 1), some (.getfield 39, 3), none],
  [none, some (.aload_n 0, 1), some (.getfield 26, 3), none, none, some (.invokevirtual 177, 3), none, none, some (.aload_n 0, 1), some (.getfield 26, 3), none, none, some (.iload_n 1, 1), some (.invokevirtual 186, 3), none, none],
  [some (.aload_n 0, 1), some (.getfield 26, 3), none, none, some (.getfield 190, 3), none, none, some (.invokestatic 193, 3), none, none, some (.ireturn, 1)]]
set_option maxRecDepth 100000 in
theorem zDX7_ill : zdrows cX7_ill 0 zJX7_ill = true := by decide +kernel
def zJX7_init : List (List (Option (Instr × Nat))) := [[some (.aload_n 0, 1), some (.invokespecial 1, 3), none, none, some (.aload_n 0, 1), some (.new 7, 3), none, none, some (.dup, 1), some (.invokespecial 9, 3), none, none, some (.putfield 10, 3), none, none, some (.aload_n 0, 1)],
  [some (.new 16, 3), none, none, some (.dup, 1), some (.invokespecial 18, 3), none, none, some (.putfield 19, 3), none, none, some (.aload_n 0, 1), some (.new 23, 3), none, none, some (.dup, 1), some (.invokespecial 25, 3)],
  [none, none, some (.putfield 26, 3), none, none, some (.aload_n 0, 1), some (.new 23, 3), none, none, some (.dup, 1), some (.invokespecial 25, 3), none, none, some (.putfield 30, 3), none, none],
  [some (.aload_n 0, 1), some (.new 23, 3), none, none, some (.dup, 1), some (.invokespecial 25, 3), none, none, some (.putfield 33, 3), none, none, some (.aload_n 0, 1), some (.new 36, 3), none, none, some (.dup, 1)],
  [some (.invokespecial 38, 3), none, none, some (.putfield 39, 3), none, none, some (.aload_n 0, 1), some (.iconst 2, 1), some (.anewarray 23, 3), none, none, some (.putfield 43, 3), none, none, some (.aload_n 0, 1), some (.iconst 2, 1)],
  [some (.newarray .boolean, 2), none, some (.putfield 47, 3), none, none, some (.aload_n 0, 1), some (.new 51, 3), none, none, some (.dup, 1), some (.invokespecial 53, 3), none, none, some (.putfield 54, 3), none, none],
  [some (.aload_n 0, 1), some (.new 58, 3), none, none, some (.dup, 1), some (.invokespecial 60, 3), none, none, some (.putfield 61, 3), none, none, some (.aload_n 0, 1), some (.bipush 12, 2), none, some (.newarray .int, 2), none],
  [some (.putfield 65, 3), none, none, some (.aload_n 0, 1), some (.bipush 12, 2), none, some (.newarray .int, 2), none, some (.putfield 69, 3), none, none, some (.aload_n 0, 1), some (.bipush 12, 2), none, some (.newarray .int, 2), none],
  [some (.putfield 72, 3), none, none, some (.aload_n 0, 1), some (.new 75, 3), none, none, some (.dup, 1), some (.invokespecial 77, 3), none, none, some (.putfield 78, 3), none, none, some (.iconst 0, 1), some (.istore_n 1, 1)],
  [some (.iload_n 1, 1), some (.iconst 2, 1), some (.if_icmp .ge 22, 3), none, none, some (.aload_n 0, 1), some (.getfield 43, 3), none, none, some (.iload_n 1, 1), some (.new 23, 3), none, none, some (.dup, 1), some (.invokespecial 25, 3), none],
  [none, some (.aastore, 1), some (.iinc 1 1, 3), none, none, some (.goto (-21), 3), none, none, some (.return_, 1)]]
set_option maxRecDepth 100000 in
theorem zDX7_init : zdrows cX7_init 0 zJX7_init = true := by decide +kernel
def zJX7_isAtRest : List (List (Option (Instr × Nat))) := [[some (.iload_n 0, 1), some (.iload_n 1, 1), some (.if_icmp .lt 9, 3), none, none, some (.iload_n 2, 1), some (.iload_n 1, 1), some (.isub, 1), some (.goto 4, 3), none, none, some (.iconst 0, 1), some (.istore 4, 2), none, some (.iload_n 1, 1), some (.iload_n 0, 1)],
  [some (.if_icmp .le 9, 3), none, none, some (.iload_n 3, 1), some (.iload_n 0, 1), some (.isub, 1), some (.goto 4, 3), none, none, some (.iconst 0, 1), some (.istore 5, 2), none, some (.iconst 0, 1), some (.istore 6, 2), none, some (.iload 6, 2)],
  [none, some (.bipush 10, 2), none, some (.if_icmp .ge 47, 3), none, none, some (.iload 6, 2), none, some (.iload_n 1, 1), some (.if_icmp .lt 9, 3), none, none, some (.iload_n 2, 1), some (.iload_n 1, 1), some (.isub, 1), some (.goto 4, 3)],
  [none, none, some (.iconst 0, 1), some (.iload 4, 2), none, some (.if_icmp .gt 21, 3), none, none, some (.iload 6, 2), none, some (.iload_n 0, 1), some (.if_icmp .le 9, 3), none, none, some (.iload_n 3, 1), some (.iload_n 0, 1)],
  [some (.isub, 1), some (.goto 4, 3), none, none, some (.iconst 0, 1), some (.iload 5, 2), none, some (.if_icmp .le 5, 3), none, none, some (.iconst 0, 1), some (.ireturn, 1), some (.iinc 6 1, 3), none, none, some (.goto (-48), 3)],
  [none, none, some (.iconst 1, 1), some (.ireturn, 1)]]
set_option maxRecDepth 100000 in
theorem zDX7_isAtRest : zdrows cX7_isAtRest 0 zJX7_isAtRest = true := by decide +kernel
def zJX7_isDigit : List (List (Option (Instr × Nat))) := [[some (.iload_n 0, 1), some (.bipush 48, 2), none, some (.if_icmp .lt 13, 3), none, none, some (.iload_n 0, 1), some (.bipush 57, 2), none, some (.if_icmp .gt 7, 3), none, none, some (.iconst 1, 1), some (.goto 4, 3), none, none],
  [some (.iconst 0, 1), some (.ireturn, 1)]]
set_option maxRecDepth 100000 in
theorem zDX7_isDigit : zdrows cX7_isDigit 0 zJX7_isDigit = true := by decide +kernel
def zJX7_isHour : List (List (Option (Instr × Nat))) := [[some (.iload_n 0, 1), some (.ifCond .lt 13, 3), none, none, some (.iload_n 0, 1), some (.bipush 8, 2), none, some (.if_icmp .ge 7, 3), none, none, some (.iconst 1, 1), some (.goto 4, 3), none, none, some (.iconst 0, 1), some (.ireturn, 1)]]
set_option maxRecDepth 100000 in
theorem zDX7_isHour : zdrows cX7_isHour 0 zJX7_isHour = true := by decide +kernel
def zJX7_keep : List (List (Option (Instr × Nat))) := [[some (.iload_n 1, 1), some (.ifCond .lt 8, 3), none, none, some (.iload_n 1, 1), some (.iconst 2, 1), some (.if_icmp .lt 5, 3), none, none, some (.iconst 0, 1), some (.ireturn, 1), some (.aload_n 0, 1), some (.getfield 43, 3), none, none, some (.iload_n 1, 1)],
  [some (.aaload, 1), some (.aload_n 0, 1), some (.getfield 26, 3), none, none, some (.invokevirtual 170, 3), none, none, some (.aload_n 0, 1), some (.getfield 47, 3), none, none, some (.iload_n 1, 1), some (.iconst 1, 1), some (.bastore, 1), some (.iconst 1, 1)],
  [some (.ireturn, 1)]]
set_option maxRecDepth 100000 in
theorem zDX7_keep : zdrows cX7_keep 0 zJX7_keep = true := by decide +kernel
def zJX7_keystone : List (List (Option (Instr × Nat))) := [[some (.iload_n 1, 1), some (.ifCond .lt 9, 3), none, none, some (.iload_n 1, 1), some (.bipush 10, 2), none, some (.if_icmp .le 5, 3), none, none, some (.iconst (-1), 1), some (.ireturn, 1), some (.aload_n 0, 1), some (.invokevirtual 313, 3), none, none],
  [some (.istore_n 2, 1), some (.iload_n 2, 1), some (.ifCond .ne 6, 3), none, none, some (.bipush (-2), 2), none, some (.ireturn, 1), some (.aload_n 0, 1), some (.iconst (-1), 1), some (.invokevirtual 268, 3), none, none, some (.aload_n 0, 1), some (.getfield 54, 3), none],
  [none, some (.invokevirtual 367, 3), none, none, some (.bipush 10, 2), none, some (.iload_n 2, 1), some (.invokestatic 193, 3), none, none, some (.invokestatic 374, 3), none, none, some (.lstore_n 3, 1), some (.iconst 0, 1), some (.istore 5, 2)],
  [none, some (.iconst 0, 1), some (.istore 6, 2), none, some (.iload 6, 2), none, some (.aload_n 0, 1), some (.getfield 19, 3), none, none, some (.getfield 154, 3), none, none, some (.if_icmp .ge 48, 3), none, none],
  [some (.iload_n 2, 1), some (.iload 6, 2), none, some (.ishr, 1), some (.iconst 1, 1), some (.iand, 1), some (.iconst 1, 1), some (.if_icmp .ne 32, 3), none, none, some (.aload_n 0, 1), some (.iload_n 2, 1), some (.iconst 1, 1), some (.iload 6, 2), none, some (.ishl, 1)],
  [some (.iconst (-1), 1), some (.ixor, 1), some (.iand, 1), some (.iload_n 1, 1), some (.invokevirtual 370, 3), none, none, some (.lstore 7, 2), none, some (.lload 7, 2), none, some (.lload_n 3, 1), some (.lcmp, 1), some (.ifCond .ge 10, 3), none, none],
  [some (.lload 7, 2), none, some (.lstore_n 3, 1), some (.iload 6, 2), none, some (.istore 5, 2), none, some (.iinc 6 1, 3), none, none, some (.goto (-54), 3), none, none, some (.aload_n 0, 1), some (.lload_n 3, 1), some (.bipush 10, 2)],
  [none, some (.iload_n 2, 1), some (.invokestatic 193, 3), none, none, some (.iconst 1, 1), some (.isub, 1), some (.invokestatic 374, 3), none, none, some (.invokevirtual 358, 3), none, none, some (.iload 5, 2), none, some (.ireturn, 1)]]
set_option maxRecDepth 100000 in
theorem zDX7_keystone : zdrows cX7_keystone 0 zJX7_keystone = true := by decide +kernel
def zJX7_later : List (List (Option (Instr × Nat))) := [[some (.iload_n 1, 1), some (.ifCond .lt 9, 3), none, none, some (.iload_n 1, 1), some (.bipush 60, 2), none, some (.if_icmp .le 5, 3), none, none, some (.iconst (-1), 1), some (.ireturn, 1), some (.aload_n 0, 1), some (.getfield 33, 3), none, none],
  [some (.aload_n 0, 1), some (.getfield 26, 3), none, none, some (.invokevirtual 170, 3), none, none, some (.aload_n 0, 1), some (.getfield 19, 3), none, none, some (.aload_n 0, 1), some (.getfield 33, 3), none, none, some (.iload_n 1, 1)],
  [some (.invokevirtual 204, 3), none, none, some (.aload_n 0, 1), some (.getfield 61, 3), none, none, some (.aload_n 0, 1), some (.getfield 33, 3), none, none, some (.invokevirtual 164, 3), none, none, some (.i2l, 1), some (.aload_n 0, 1)],
  [some (.getfield 33, 3), none, none, some (.invokevirtual 250, 3), none, none, some (.i2l, 1), some (.invokevirtual 208, 3), none, none, some (.aload_n 0, 1), some (.getfield 33, 3), none, none, some (.getfield 198, 3), none],
  [none, some (.aload_n 0, 1), some (.getfield 26, 3), none, none, some (.getfield 198, 3), none, none, some (.isub, 1), some (.ireturn, 1)]]
set_option maxRecDepth 100000 in
theorem zDX7_later : zdrows cX7_later 0 zJX7_later = true := by decide +kernel
def zJX7_law : List (List (Option (Instr × Nat))) := [[some (.aload_n 0, 1), some (.invokevirtual 103, 3), none, none, some (.istore_n 1, 1), some (.iload_n 1, 1), some (.iconst (-1), 1), some (.if_icmp .eq 9, 3), none, none, some (.sipush (-10000), 3), none, none, some (.iload_n 1, 1), some (.isub, 1), some (.ireturn, 1)],
  [some (.aload_n 0, 1), some (.aload_n 0, 1), some (.getfield 78, 3), none, none, some (.invokevirtual 381, 3), none, none, some (.istore_n 2, 1), some (.aload_n 0, 1), some (.aload_n 0, 1), some (.getfield 19, 3), none, none, some (.getfield 107, 3), none],
  [none, some (.invokevirtual 381, 3), none, none, some (.istore_n 3, 1), some (.aload_n 0, 1), some (.getfield 61, 3), none, none, some (.iload_n 2, 1), some (.i2l, 1), some (.iload_n 3, 1), some (.i2l, 1), some (.invokevirtual 208, 3), none, none],
  [some (.iload_n 2, 1), some (.iload_n 3, 1), some (.isub, 1), some (.ireturn, 1)]]
set_option maxRecDepth 100000 in
theorem zDX7_law : zdrows cX7_law 0 zJX7_law = true := by decide +kernel
def zJX7_leastHard : List (List (Option (Instr × Nat))) := [[some (.iconst (-1), 1), some (.istore_n 3, 1), some (.sipush 1000, 3), none, none, some (.istore 4, 2), none, some (.iconst 0, 1), some (.istore 5, 2), none, some (.iload 5, 2), none, some (.aload_n 0, 1), some (.getfield 19, 3), none, none],
  [some (.getfield 154, 3), none, none, some (.if_icmp .ge 59, 3), none, none, some (.iload_n 2, 1), some (.iload 5, 2), none, some (.ishr, 1), some (.iconst 1, 1), some (.iand, 1), some (.ifCond .ne 44, 3), none, none, some (.aload_n 0, 1)],
  [some (.getfield 19, 3), none, none, some (.aload_n 0, 1), some (.getfield 26, 3), none, none, some (.iload 5, 2), none, some (.iload_n 1, 1), some (.invokevirtual 332, 3), none, none, some (.ifCond .eq 27, 3), none, none],
  [some (.aload_n 0, 1), some (.iload 5, 2), none, some (.iload_n 1, 1), some (.invokevirtual 137, 3), none, none, some (.iload 4, 2), none, some (.if_icmp .ge 15, 3), none, none, some (.aload_n 0, 1), some (.iload 5, 2), none, some (.iload_n 1, 1)],
  [some (.invokevirtual 137, 3), none, none, some (.istore 4, 2), none, some (.iload 5, 2), none, some (.istore_n 3, 1), some (.iinc 5 1, 3), none, none, some (.goto (-65), 3), none, none, some (.iload_n 3, 1), some (.ireturn, 1)]]
set_option maxRecDepth 100000 in
theorem zDX7_leastHard : zdrows cX7_leastHard 0 zJX7_leastHard = true := by decide +kernel
def zJX7_lowest : List (List (Option (Instr × Nat))) := [[some (.iload_n 0, 1), some (.iload_n 0, 1), some (.ineg, 1), some (.iand, 1), some (.iconst 1, 1), some (.isub, 1), some (.invokestatic 193, 3), none, none, some (.ireturn, 1)]]
set_option maxRecDepth 100000 in
theorem zDX7_lowest : zdrows cX7_lowest 0 zJX7_lowest = true := by decide +kernel
def zJX7_meets : List (List (Option (Instr × Nat))) := [[some (.aload_n 0, 1), some (.getfield 19, 3), none, none, some (.iload_n 1, 1), some (.iload_n 2, 1), some (.invokevirtual 328, 3), none, none, some (.ifCond .eq 14, 3), none, none, some (.iload_n 3, 1), some (.iconst 2, 1), some (.if_icmp .lt 9, 3), none],
  [none, some (.iload_n 3, 1), some (.bipush 40, 2), none, some (.if_icmp .le 5, 3), none, none, some (.iconst (-1), 1), some (.ireturn, 1), some (.iconst 0, 1), some (.istore 4, 2), none, some (.iconst 0, 1), some (.istore 5, 2), none, some (.sipush 999, 3)],
  [none, none, some (.istore 6, 2), none, some (.iload 6, 2), none, some (.iconst 1, 1), some (.if_icmp .lt 51, 3), none, none, some (.aload_n 0, 1), some (.getfield 19, 3), none, none, some (.getfield 119, 3), none],
  [none, some (.iload_n 1, 1), some (.iaload, 1), some (.iload 6, 2), none, some (.imul, 1), some (.iload_n 1, 1), some (.iadd, 1), some (.iload_n 3, 1), some (.irem, 1), some (.aload_n 0, 1), some (.getfield 19, 3), none, none, some (.getfield 119, 3), none],
  [none, some (.iload_n 2, 1), some (.iaload, 1), some (.iload 6, 2), none, some (.imul, 1), some (.iload_n 2, 1), some (.iadd, 1), some (.iload_n 3, 1), some (.irem, 1), some (.if_icmp .ne 10, 3), none, none, some (.iload 6, 2), none, some (.istore 4, 2)],
  [none, some (.iinc 5 1, 3), none, none, some (.iinc 6 (-1), 3), none, none, some (.goto (-51), 3), none, none, some (.iload 5, 2), none, some (.ifCond .ne 6, 3), none, none, some (.bipush (-2), 2)],
  [none, some (.ireturn, 1), some (.aload_n 0, 1), some (.getfield 61, 3), none, none, some (.aload_n 0, 1), some (.getfield 19, 3), none, none, some (.getfield 119, 3), none, none, some (.iload_n 1, 1), some (.iaload, 1), some (.iload 4, 2)],
  [none, some (.imul, 1), some (.iload_n 1, 1), some (.iadd, 1), some (.iload_n 3, 1), some (.irem, 1), some (.i2l, 1), some (.iload 5, 2), none, some (.i2l, 1), some (.invokevirtual 208, 3), none, none, some (.iload 4, 2), none, some (.ireturn, 1)]]
set_option maxRecDepth 100000 in
theorem zDX7_meets : zdrows cX7_meets 0 zJX7_meets = true := by decide +kernel
def zJX7_mended : List (List (Option (Instr × Nat))) := [[some (.aload_n 0, 1), some (.getfield 19, 3), none, none, some (.iload_n 1, 1), some (.invokevirtual 110, 3), none, none, some (.ifCond .ne 5, 3), none, none, some (.iconst (-1), 1), some (.ireturn, 1), some (.aload_n 0, 1), some (.iload_n 1, 1), some (.invokevirtual 268, 3)],
  [none, none, some (.aload_n 0, 1), some (.invokevirtual 290, 3), none, none, some (.aload_n 0, 1), some (.getfield 54, 3), none, none, some (.invokevirtual 275, 3), none, none, some (.lstore_n 2, 1), some (.lload_n 2, 1), some (.ldc2_w 262, 3)],
  [none, none, some (.lcmp, 1), some (.ifCond .lt 8, 3), none, none, some (.bipush (-2), 2), none, some (.goto 8, 3), none, none, some (.aload_n 0, 1), some (.lload_n 2, 1), some (.invokevirtual 264, 3), none, none],
  [some (.ireturn, 1)]]
set_option maxRecDepth 100000 in
theorem zDX7_mended : zdrows cX7_mended 0 zJX7_mended = true := by decide +kernel
def zJX7_missed : List (List (Option (Instr × Nat))) := [[some (.aload_n 0, 1), some (.getfield 19, 3), none, none, some (.iload_n 1, 1), some (.invokevirtual 110, 3), none, none, some (.ifCond .ne 5, 3), none, none, some (.iconst (-1), 1), some (.ireturn, 1), some (.aload_n 0, 1), some (.iconst (-1), 1), some (.invokevirtual 258, 3)],
  [none, none, some (.lstore_n 2, 1), some (.aload_n 0, 1), some (.iload_n 1, 1), some (.invokevirtual 258, 3), none, none, some (.lstore 4, 2), none, some (.lload_n 2, 1), some (.ldc2_w 262, 3), none, none, some (.lcmp, 1), some (.ifCond .ge 12, 3)],
  [none, none, some (.lload 4, 2), none, some (.ldc2_w 262, 3), none, none, some (.lcmp, 1), some (.ifCond .lt 6, 3), none, none, some (.bipush (-2), 2), none, some (.ireturn, 1), some (.lload 4, 2), none],
  [some (.invokestatic 297, 3), none, none, some (.lload_n 2, 1), some (.invokestatic 297, 3), none, none, some (.isub, 1), some (.ireturn, 1)]]
set_option maxRecDepth 100000 in
theorem zDX7_missed : zdrows cX7_missed 0 zJX7_missed = true := by decide +kernel
def zJX7_nights : List (List (Option (Instr × Nat))) := [[some (.iload_n 1, 1), some (.ifCond .lt 9, 3), none, none, some (.iload_n 1, 1), some (.bipush 30, 2), none, some (.if_icmp .le 5, 3), none, none, some (.iconst (-1), 1), some (.ireturn, 1), some (.iload_n 1, 1), some (.ifCond .le 14, 3), none, none],
  [some (.aload_n 0, 1), some (.getfield 39, 3), none, none, some (.aload_n 0, 1), some (.getfield 26, 3), none, none, some (.invokevirtual 177, 3), none, none, some (.aload_n 0, 1), some (.getfield 26, 3), none, none, some (.getfield 198, 3)],
  [none, none, some (.istore_n 2, 1), some (.aload_n 0, 1), some (.getfield 26, 3), none, none, some (.getfield 201, 3), none, none, some (.istore_n 3, 1), some (.aload_n 0, 1), some (.getfield 19, 3), none, none, some (.aload_n 0, 1)],
  [some (.getfield 26, 3), none, none, some (.iload_n 1, 1), some (.invokevirtual 204, 3), none, none, some (.aload_n 0, 1), some (.getfield 61, 3), none, none, some (.aload_n 0, 1), some (.getfield 26, 3), none, none, some (.getfield 201, 3)],
  [none, none, some (.iload_n 3, 1), some (.isub, 1), some (.i2l, 1), some (.aload_n 0, 1), some (.getfield 26, 3), none, none, some (.invokevirtual 164, 3), none, none, some (.i2l, 1), some (.invokevirtual 208, 3), none, none],
  [some (.aload_n 0, 1), some (.getfield 26, 3), none, none, some (.getfield 198, 3), none, none, some (.iload_n 2, 1), some (.isub, 1), some (.ireturn, 1)]]
set_option maxRecDepth 100000 in
theorem zDX7_nights : zdrows cX7_nights 0 zJX7_nights = true := by decide +kernel
def zJX7_openFitting : List (List (Option (Instr × Nat))) := [[some (.aload_n 0, 1), some (.iconst (-1), 1), some (.invokevirtual 268, 3), none, none, some (.iconst 0, 1), some (.istore_n 1, 1), some (.iload_n 1, 1), some (.aload_n 0, 1), some (.getfield 345, 3), none, none, some (.if_icmp .ge 60, 3), none, none, some (.aload_n 0, 1)],
  [some (.getfield 72, 3), none, none, some (.iload_n 1, 1), some (.iaload, 1), some (.iconst 1, 1), some (.if_icmp .ne 25, 3), none, none, some (.aload_n 0, 1), some (.getfield 54, 3), none, none, some (.aload_n 0, 1), some (.getfield 65, 3), none],
  [none, some (.iload_n 1, 1), some (.iaload, 1), some (.aload_n 0, 1), some (.getfield 69, 3), none, none, some (.iload_n 1, 1), some (.iaload, 1), some (.invokevirtual 354, 3), none, none, some (.goto 22, 3), none, none, some (.aload_n 0, 1)],
  [some (.getfield 54, 3), none, none, some (.aload_n 0, 1), some (.getfield 65, 3), none, none, some (.iload_n 1, 1), some (.iaload, 1), some (.aload_n 0, 1), some (.getfield 69, 3), none, none, some (.iload_n 1, 1), some (.iaload, 1), some (.invokevirtual 437, 3)],
  [none, none, some (.iinc 1 1, 3), none, none, some (.goto (-62), 3), none, none, some (.return_, 1)]]
set_option maxRecDepth 100000 in
theorem zDX7_openFitting : zdrows cX7_openFitting 0 zJX7_openFitting = true := by decide +kernel
def zJX7_openSeats : List (List (Option (Instr × Nat))) := [[some (.aload_n 0, 1), some (.getfield 54, 3), none, none, some (.aload_n 0, 1), some (.getfield 19, 3), none, none, some (.getfield 141, 3), none, none, some (.invokevirtual 430, 3), none, none, some (.iconst 0, 1), some (.istore_n 2, 1)],
  [some (.iload_n 2, 1), some (.aload_n 0, 1), some (.getfield 19, 3), none, none, some (.getfield 154, 3), none, none, some (.if_icmp .ge 65, 3), none, none, some (.iload_n 2, 1), some (.iload_n 1, 1), some (.if_icmp .eq 18, 3), none, none],
  [some (.aload_n 0, 1), some (.getfield 26, 3), none, none, some (.iload_n 2, 1), some (.invokevirtual 128, 3), none, none, some (.ifCond .ne 7, 3), none, none, some (.iconst 1, 1), some (.goto 4, 3), none, none, some (.iconst 0, 1)],
  [some (.istore_n 3, 1), some (.aload_n 0, 1), some (.getfield 54, 3), none, none, some (.iload_n 2, 1), some (.iload_n 3, 1), some (.ifCond .eq 15, 3), none, none, some (.aload_n 0, 1), some (.getfield 19, 3), none, none, some (.getfield 122, 3), none],
  [none, some (.iload_n 2, 1), some (.iaload, 1), some (.goto 4, 3), none, none, some (.iconst 0, 1), some (.aload_n 0, 1), some (.getfield 19, 3), none, none, some (.getfield 116, 3), none, none, some (.iload_n 2, 1), some (.iaload, 1)],
  [some (.invokevirtual 433, 3), none, none, some (.iinc 2 1, 3), none, none, some (.goto (-70), 3), none, none, some (.return_, 1)]]
set_option maxRecDepth 100000 in
theorem zDX7_openSeats : zdrows cX7_openSeats 0 zJX7_openSeats = true := by decide +kernel
def zJX7_paid : List (List (Option (Instr × Nat))) := [[some (.aload_n 0, 1), some (.getfield 19, 3), none, none, some (.iload_n 1, 1), some (.invokevirtual 110, 3), none, none, some (.ifCond .ne 5, 3), none, none, some (.iconst (-1), 1), some (.ireturn, 1), some (.aload_n 0, 1), some (.iconst (-1), 1), some (.invokevirtual 258, 3)],
  [none, none, some (.lstore_n 2, 1), some (.aload_n 0, 1), some (.iload_n 1, 1), some (.invokevirtual 258, 3), none, none, some (.lstore 4, 2), none, some (.lload_n 2, 1), some (.ldc2_w 262, 3), none, none, some (.lcmp, 1), some (.ifCond .ge 12, 3)],
  [none, none, some (.lload 4, 2), none, some (.ldc2_w 262, 3), none, none, some (.lcmp, 1), some (.ifCond .lt 6, 3), none, none, some (.bipush (-2), 2), none, some (.ireturn, 1), some (.iconst 0, 1), some (.istore 6, 2)],
  [none, some (.iconst 0, 1), some (.istore 7, 2), none, some (.iload 7, 2), none, some (.aload_n 0, 1), some (.getfield 19, 3), none, none, some (.getfield 141, 3), none, none, some (.if_icmp .ge 35, 3), none, none],
  [some (.iload 6, 2), none, some (.lload_n 2, 1), some (.iload 7, 2), none, some (.invokestatic 293, 3), none, none, some (.iload_n 1, 1), some (.if_icmp .ne 13, 3), none, none, some (.aload_n 0, 1), some (.iload_n 1, 1), some (.iload 7, 2), none],
  [some (.invokevirtual 137, 3), none, none, some (.goto 4, 3), none, none, some (.iconst 0, 1), some (.iadd, 1), some (.istore 6, 2), none, some (.iinc 7 1, 3), none, none, some (.goto (-41), 3), none, none],
  [some (.lload_n 2, 1), some (.invokestatic 297, 3), none, none, some (.iload 6, 2), none, some (.isub, 1), some (.istore 7, 2), none, some (.aload_n 0, 1), some (.getfield 61, 3), none, none, some (.iload 6, 2), none, some (.i2l, 1)],
  [some (.iload 7, 2), none, some (.i2l, 1), some (.invokevirtual 208, 3), none, none, some (.lload 4, 2), none, some (.invokestatic 297, 3), none, none, some (.iload 7, 2), none, some (.isub, 1), some (.ireturn, 1)]]
set_option maxRecDepth 100000 in
theorem zDX7_paid : zdrows cX7_paid 0 zJX7_paid = true := by decide +kernel
def zJX7_power : List (List (Option (Instr × Nat))) := [[some (.lconst 1, 1), some (.lstore_n 2, 1), some (.iconst 0, 1), some (.istore 4, 2), none, some (.iload 4, 2), none, some (.iload_n 1, 1), some (.if_icmp .ge 14, 3), none, none, some (.lload_n 2, 1), some (.iload_n 0, 1), some (.i2l, 1), some (.lmul, 1), some (.lstore_n 2, 1)],
  [some (.iinc 4 1, 3), none, none, some (.goto (-14), 3), none, none, some (.lload_n 2, 1), some (.lreturn, 1)]]
set_option maxRecDepth 100000 in
theorem zDX7_power : zdrows cX7_power 0 zJX7_power = true := by decide +kernel
def zJX7_priceByDifference : List (List (Option (Instr × Nat))) := [[some (.iconst 0, 1), some (.istore_n 1, 1), some (.iload_n 1, 1), some (.aload_n 0, 1), some (.getfield 19, 3), none, none, some (.getfield 154, 3), none, none, some (.if_icmp .ge 55, 3), none, none, some (.iconst 0, 1), some (.istore_n 2, 1), some (.iload_n 2, 1)],
  [some (.aload_n 0, 1), some (.getfield 19, 3), none, none, some (.getfield 141, 3), none, none, some (.if_icmp .ge 36, 3), none, none, some (.aload_n 0, 1), some (.getfield 54, 3), none, none, some (.iload_n 1, 1), some (.iload_n 2, 1)],
  [some (.aload_n 0, 1), some (.getfield 26, 3), none, none, some (.getfield 183, 3), none, none, some (.iload_n 2, 1), some (.iaload, 1), some (.iload_n 1, 1), some (.if_icmp .ne 7, 3), none, none, some (.iconst 0, 1), some (.goto 4, 3), none],
  [none, some (.iconst 1, 1), some (.invokevirtual 440, 3), none, none, some (.iinc 2 1, 3), none, none, some (.goto (-41), 3), none, none, some (.iinc 1 1, 3), none, none, some (.goto (-60), 3), none],
  [none, some (.return_, 1)]]
set_option maxRecDepth 100000 in
theorem zDX7_priceByDifference : zdrows cX7_priceByDifference 0 zJX7_priceByDifference = true := by decide +kernel
def zJX7_priceByHard : List (List (Option (Instr × Nat))) := [[some (.iconst 0, 1), some (.istore_n 1, 1), some (.iload_n 1, 1), some (.aload_n 0, 1), some (.getfield 19, 3), none, none, some (.getfield 154, 3), none, none, some (.if_icmp .ge 43, 3), none, none, some (.iconst 0, 1), some (.istore_n 2, 1), some (.iload_n 2, 1)],
  [some (.aload_n 0, 1), some (.getfield 19, 3), none, none, some (.getfield 141, 3), none, none, some (.if_icmp .ge 24, 3), none, none, some (.aload_n 0, 1), some (.getfield 54, 3), none, none, some (.iload_n 1, 1), some (.iload_n 2, 1)],
  [some (.aload_n 0, 1), some (.iload_n 1, 1), some (.iload_n 2, 1), some (.invokevirtual 137, 3), none, none, some (.invokevirtual 440, 3), none, none, some (.iinc 2 1, 3), none, none, some (.goto (-29), 3), none, none, some (.iinc 1 1, 3)],
  [none, none, some (.goto (-48), 3), none, none, some (.return_, 1)]]
set_option maxRecDepth 100000 in
theorem zDX7_priceByHard : zdrows cX7_priceByHard 0 zJX7_priceByHard = true := by decide +kernel
def zJX7_priceByName : List (List (Option (Instr × Nat))) := [[some (.iconst 0, 1), some (.istore_n 1, 1), some (.iload_n 1, 1), some (.aload_n 0, 1), some (.getfield 19, 3), none, none, some (.getfield 154, 3), none, none, some (.if_icmp .ge 38, 3), none, none, some (.iconst 0, 1), some (.istore_n 2, 1), some (.iload_n 2, 1)],
  [some (.aload_n 0, 1), some (.getfield 19, 3), none, none, some (.getfield 141, 3), none, none, some (.if_icmp .ge 19, 3), none, none, some (.aload_n 0, 1), some (.getfield 54, 3), none, none, some (.iload_n 1, 1), some (.iload_n 2, 1)],
  [some (.iconst 0, 1), some (.invokevirtual 440, 3), none, none, some (.iinc 2 1, 3), none, none, some (.goto (-24), 3), none, none, some (.iinc 1 1, 3), none, none, some (.goto (-43), 3), none, none],
  [some (.return_, 1)]]
set_option maxRecDepth 100000 in
theorem zDX7_priceByName : zdrows cX7_priceByName 0 zJX7_priceByName = true := by decide +kernel
def zJX7_readSpare : List (List (Option (Instr × Nat))) := [[some (.aload_n 0, 1), some (.getfield 78, 3), none, none, some (.aload_n 0, 1), some (.getfield 10, 3), none, none, some (.invokevirtual 411, 3), none, none, some (.istore_n 1, 1), some (.aload_n 0, 1), some (.getfield 10, 3), none, none],
  [some (.invokevirtual 94, 3), none, none, some (.iload_n 1, 1), some (.ireturn, 1)]]
set_option maxRecDepth 100000 in
theorem zDX7_readSpare : zdrows cX7_readSpare 0 zJX7_readSpare = true := by decide +kernel
def zJX7_rests : List (List (Option (Instr × Nat))) := [[some (.iload_n 1, 1), some (.ifCond .lt 19, 3), none, none, some (.iload_n 1, 1), some (.bipush 10, 2), none, some (.if_icmp .ge 13, 3), none, none, some (.iload_n 2, 1), some (.ifCond .lt 9, 3), none, none, some (.iload_n 2, 1), some (.bipush 10, 2)],
  [none, some (.if_icmp .lt 5, 3), none, none, some (.iconst (-1), 1), some (.ireturn, 1), some (.iconst 0, 1), some (.istore_n 3, 1), some (.iconst 0, 1), some (.istore 4, 2), none, some (.iconst 0, 1), some (.istore 5, 2), none, some (.bipush 99, 2), none],
  [some (.istore 6, 2), none, some (.iload 6, 2), none, some (.ifCond .lt 57, 3), none, none, some (.iload 6, 2), none, some (.bipush 10, 2), none, some (.idiv, 1), some (.iload 6, 2), none, some (.bipush 10, 2), none],
  [some (.irem, 1), some (.iload_n 1, 1), some (.iload_n 2, 1), some (.invokestatic 377, 3), none, none, some (.ifCond .eq 33, 3), none, none, some (.iinc 3 1, 3), none, none, some (.iload 4, 2), none, some (.iload 6, 2), none],
  [some (.bipush 10, 2), none, some (.idiv, 1), some (.iload 6, 2), none, some (.bipush 10, 2), none, some (.irem, 1), some (.if_icmp .lt 7, 3), none, none, some (.iconst 1, 1), some (.goto 4, 3), none, none, some (.iconst 0, 1)],
  [some (.iadd, 1), some (.istore 4, 2), none, some (.iload 6, 2), none, some (.istore 5, 2), none, some (.iinc 6 (-1), 3), none, none, some (.goto (-56), 3), none, none, some (.aload_n 0, 1), some (.getfield 61, 3), none],
  [none, some (.invokevirtual 316, 3), none, none, some (.iload_n 3, 1), some (.ifCond .le 32, 3), none, none, some (.aload_n 0, 1), some (.getfield 61, 3), none, none, some (.iload 5, 2), none, some (.bipush 10, 2), none],
  [some (.idiv, 1), some (.i2l, 1), some (.iload 5, 2), none, some (.bipush 10, 2), none, some (.irem, 1), some (.i2l, 1), some (.invokevirtual 208, 3), none, none, some (.aload_n 0, 1), some (.getfield 61, 3), none, none, some (.iload 4, 2)],
  [none, some (.i2l, 1), some (.invokevirtual 256, 3), none, none, some (.iload_n 3, 1), some (.ireturn, 1)]]
set_option maxRecDepth 100000 in
theorem zDX7_rests : zdrows cX7_rests 0 zJX7_rests = true := by decide +kernel
def zJX7_rider : List (List (Option (Instr × Nat))) := [[some (.aload_n 0, 1), some (.getfield 19, 3), none, none, some (.iload_n 1, 1), some (.invokevirtual 110, 3), none, none, some (.ifCond .eq 12, 3), none, none, some (.iload_n 2, 1), some (.ifCond .lt 8, 3), none, none, some (.iload_n 2, 1)],
  [some (.iconst 5, 1), some (.if_icmp .le 11, 3), none, none, none, none, none, some (.dup, 1), none, none, none, none, some (.iload_n 2, 1), some (.tableswitch 92 0 4 #[35, 45, 55, 65, 75], 35), none, none],
  [none, none, none, none, none, none, none, none, none, none, none, none, none, none, none, none],
  [none, none, none, none, none, none, none, none, none, none, none, none, none, none, none, none],
  [some (.aload_n 0, 1), some (.getfield 19, 3), none, none, some (.getfield 116, 3), none, none, some (.iload_n 1, 1), some (.iaload, 1), some (.ireturn, 1), some (.aload_n 0, 1), some (.getfield 19, 3), none, none, some (.getfield 119, 3), none],
  [none, some (.iload_n 1, 1), some (.iaload, 1), some (.ireturn, 1), some (.aload_n 0, 1), some (.getfield 19, 3), none, none, some (.getfield 122, 3), none, none, some (.iload_n 1, 1), some (.iaload, 1), some (.ireturn, 1), some (.aload_n 0, 1), some (.getfield 26, 3)],
  [none, none, some (.getfield 125, 3), none, none, some (.iload_n 1, 1), some (.iaload, 1), some (.ireturn, 1), some (.aload_n 0, 1), some (.getfield 26, 3), none, none, some (.iload_n 1, 1), some (.invokevirtual 128, 3), none, none],
  [some (.ifCond .eq 7, 3), none, none, some (.iconst 1, 1), some (.goto 4, 3), none, none, some (.iconst 0, 1), some (.ireturn, 1), some (.aload_n 0, 1), some (.getfield 26, 3), none, none, some (.iload_n 1, 1), some (.invokevirtual 131, 3), none],
  [none, some (.ireturn, 1)]]
set_option maxRecDepth 100000 in
theorem zDX7_rider : zdrows cX7_rider 0 zJX7_rider = true := by decide +kernel
def zJX7_riders : List (List (Option (Instr × Nat))) := [[some (.aload_n 0, 1), some (.getfield 19, 3), none, none, some (.aload_n 0, 1), some (.getfield 10, 3), none, none, some (.invokevirtual 90, 3), none, none, some (.istore_n 1, 1), some (.aload_n 0, 1), some (.getfield 10, 3), none, none],
  [some (.invokevirtual 94, 3), none, none, some (.iload_n 1, 1), some (.ifCond .le 14, 3), none, none, some (.aload_n 0, 1), some (.getfield 39, 3), none, none, some (.invokevirtual 97, 3), none, none, some (.aload_n 0, 1), some (.invokevirtual 100, 3)],
  [none, none, some (.iload_n 1, 1), some (.ireturn, 1)]]
set_option maxRecDepth 100000 in
theorem zDX7_riders : zdrows cX7_riders 0 zJX7_riders = true := by decide +kernel
def zJX7_rota : List (List (Option (Instr × Nat))) := [[some (.aload_n 0, 1), some (.invokevirtual 167, 3), none, none, some (.istore_n 1, 1), some (.iconst (-1), 1), some (.iload_n 1, 1), some (.isub, 1), some (.istore_n 2, 1), some (.iload_n 1, 1), some (.iconst (-1), 1), some (.if_icmp .ne 30, 3), none, none, some (.aload_n 0, 1), some (.getfield 30, 3)],
  [none, none, some (.aload_n 0, 1), some (.getfield 26, 3), none, none, some (.invokevirtual 170, 3), none, none, some (.aload_n 0, 1), some (.invokevirtual 174, 3), none, none, some (.istore_n 2, 1), some (.aload_n 0, 1), some (.getfield 39, 3)],
  [none, none, some (.aload_n 0, 1), some (.getfield 30, 3), none, none, some (.invokevirtual 177, 3), none, none, some (.aload_n 0, 1), some (.getfield 10, 3), none, none, some (.invokevirtual 94, 3), none, none],
  [some (.iload_n 2, 1), some (.ireturn, 1)]]
set_option maxRecDepth 100000 in
theorem zDX7_rota : zdrows cX7_rota 0 zJX7_rota = true := by decide +kernel
def zJX7_rotaFault : List (List (Option (Instr × Nat))) := [[some (.aload_n 0, 1), some (.getfield 10, 3), none, none, some (.getfield 215, 3), none, none, some (.aload_n 0, 1), some (.getfield 19, 3), none, none, some (.getfield 141, 3), none, none, some (.invokestatic 400, 3), none],
  [none, some (.istore_n 1, 1), some (.iconst 0, 1), some (.istore_n 2, 1), some (.iload_n 2, 1), some (.iload_n 1, 1), some (.if_icmp .ge 47, 3), none, none, some (.aload_n 0, 1), some (.getfield 10, 3), none, none, some (.iload_n 2, 1), some (.invokevirtual 218, 3), none],
  [none, some (.istore_n 3, 1), some (.iload_n 3, 1), some (.bipush 45, 2), none, some (.if_icmp .eq 26, 3), none, none, some (.iload_n 3, 1), some (.invokestatic 414, 3), none, none, some (.ifCond .eq 17, 3), none, none, some (.aload_n 0, 1)],
  [some (.getfield 19, 3), none, none, some (.iload_n 3, 1), some (.bipush 48, 2), none, some (.isub, 1), some (.invokevirtual 110, 3), none, none, some (.ifCond .ne 5, 3), none, none, some (.iload_n 2, 1), some (.ireturn, 1), some (.iinc 2 1, 3)],
  [none, none, some (.goto (-46), 3), none, none, some (.aload_n 0, 1), some (.getfield 10, 3), none, none, some (.getfield 215, 3), none, none, some (.aload_n 0, 1), some (.getfield 19, 3), none, none],
  [some (.getfield 141, 3), none, none, some (.if_icmp .ne 7, 3), none, none, some (.iconst (-1), 1), some (.goto 4, 3), none, none, some (.iload_n 1, 1), some (.ireturn, 1)]]
set_option maxRecDepth 100000 in
theorem zDX7_rotaFault : zdrows cX7_rotaFault 0 zJX7_rotaFault = true := by decide +kernel
def zJX7_rotas : List (List (Option (Instr × Nat))) := [[some (.aload_n 0, 1), some (.iconst (-1), 1), some (.invokevirtual 268, 3), none, none, some (.aload_n 0, 1), some (.invokevirtual 287, 3), none, none, some (.ireturn, 1)]]
set_option maxRecDepth 100000 in
theorem zDX7_rotas : zdrows cX7_rotas 0 zJX7_rotas = true := by decide +kernel
def zJX7_row : List (List (Option (Instr × Nat))) := [[some (.iload_n 1, 1), some (.ifCond .lt 14, 3), none, none, some (.iload_n 1, 1), some (.aload_n 0, 1), some (.getfield 61, 3), none, none, some (.getfield 397, 3), none, none, some (.if_icmp .lt 11, 3), none, none, none],
  [none, none, some (.dup, 1), none, none, none, none, some (.aload_n 0, 1), some (.getfield 61, 3), none, none, some (.iload_n 1, 1), some (.invokevirtual 398, 3), none, none, some (.lreturn, 1)]]
set_option maxRecDepth 100000 in
theorem zDX7_row : zdrows cX7_row 0 zJX7_row = true := by decide +kernel
def zJX7_rule : List (List (Option (Instr × Nat))) := [[some (.aload_n 0, 1), some (.invokevirtual 103, 3), none, none, some (.istore_n 1, 1), some (.iload_n 1, 1), some (.iconst (-1), 1), some (.if_icmp .eq 7, 3), none, none, some (.iconst (-1), 1), some (.iload_n 1, 1), some (.isub, 1), some (.ireturn, 1), some (.aload_n 0, 1), some (.getfield 19, 3)],
  [none, none, some (.getfield 107, 3), none, none, some (.astore_n 2, 1), some (.aload_n 0, 1), some (.getfield 19, 3), none, none, some (.aload_n 0, 1), some (.getfield 78, 3), none, none, some (.putfield 107, 3), none],
  [none, some (.aload_n 0, 1), some (.aload_n 2, 1), some (.putfield 78, 3), none, none, some (.iconst 0, 1), some (.ireturn, 1)]]
set_option maxRecDepth 100000 in
theorem zDX7_rule : zdrows cX7_rule 0 zJX7_rule = true := by decide +kernel
def zJX7_set : List (List (Option (Instr × Nat))) := [[some (.iconst (-1), 1), some (.istore_n 3, 1), some (.iload_n 1, 1), some (.ifCond .ne 33, 3), none, none, some (.iload_n 2, 1), some (.iconst 1, 1), some (.if_icmp .lt 28, 3), none, none, some (.iload_n 2, 1), some (.bipush 8, 2), none, some (.if_icmp .gt 22, 3), none],
  [none, some (.aload_n 0, 1), some (.getfield 19, 3), none, none, some (.getfield 141, 3), none, none, some (.istore_n 3, 1), some (.aload_n 0, 1), some (.getfield 19, 3), none, none, some (.iload_n 2, 1), some (.putfield 141, 3), none],
  [none, some (.goto 34, 3), none, none, some (.iload_n 1, 1), some (.iconst 1, 1), some (.if_icmp .ne 29, 3), none, none, some (.iload_n 2, 1), some (.ifCond .lt 25, 3), none, none, some (.iload_n 2, 1), some (.bipush 9, 2), none],
  [some (.if_icmp .gt 19, 3), none, none, some (.aload_n 0, 1), some (.getfield 19, 3), none, none, some (.getfield 145, 3), none, none, some (.istore_n 3, 1), some (.aload_n 0, 1), some (.getfield 19, 3), none, none, some (.iload_n 2, 1)],
  [some (.putfield 145, 3), none, none, some (.iload_n 3, 1), some (.ireturn, 1)]]
set_option maxRecDepth 100000 in
theorem zDX7_set : zdrows cX7_set 0 zJX7_set = true := by decide +kernel
def zJX7_shared : List (List (Option (Instr × Nat))) := [[some (.aload_n 0, 1), some (.getfield 19, 3), none, none, some (.iload_n 1, 1), some (.iload_n 2, 1), some (.invokevirtual 328, 3), none, none, some (.ifCond .ne 5, 3), none, none, some (.iconst (-1), 1), some (.ireturn, 1), some (.aload_n 0, 1), some (.getfield 61, 3)],
  [none, none, some (.aload_n 0, 1), some (.getfield 19, 3), none, none, some (.getfield 122, 3), none, none, some (.iload_n 1, 1), some (.iaload, 1), some (.aload_n 0, 1), some (.getfield 19, 3), none, none, some (.getfield 122, 3)],
  [none, none, some (.iload_n 2, 1), some (.iaload, 1), some (.ior, 1), some (.iconst (-1), 1), some (.ixor, 1), some (.sipush 255, 3), none, none, some (.iand, 1), some (.i2l, 1), some (.invokevirtual 247, 3), none, none, some (.aload_n 0, 1)],
  [some (.getfield 19, 3), none, none, some (.getfield 122, 3), none, none, some (.iload_n 1, 1), some (.iaload, 1), some (.aload_n 0, 1), some (.getfield 19, 3), none, none, some (.getfield 122, 3), none, none, some (.iload_n 2, 1)],
  [some (.iaload, 1), some (.iand, 1), some (.ireturn, 1)]]
set_option maxRecDepth 100000 in
theorem zDX7_shared : zdrows cX7_shared 0 zJX7_shared = true := by decide +kernel
def zJX7_sheet : List (List (Option (Instr × Nat))) := [[some (.iload_n 1, 1), some (.ifCond .lt 14, 3), none, none, some (.iload_n 1, 1), some (.iconst 3, 1), some (.if_icmp .gt 9, 3), none, none, some (.iload_n 2, 1), some (.bipush 8, 2), none, some (.if_icmp .le 5, 3), none, none, some (.iconst (-1), 1)],
  [some (.ireturn, 1), some (.iload_n 1, 1), some (.iconst 3, 1), some (.if_icmp .ne 17, 3), none, none, some (.aload_n 0, 1), some (.getfield 26, 3), none, none, some (.getfield 125, 3), none, none, some (.iconst 0, 1), some (.invokestatic 148, 3), none],
  [none, some (.bipush (-3), 2), none, some (.ireturn, 1), some (.iload_n 2, 1), some (.ifCond .ge 6, 3), none, none, some (.bipush (-2), 2), none, some (.ireturn, 1), some (.iconst 0, 1), some (.istore 5, 2), none, some (.iload 5, 2), none],
  [some (.aload_n 0, 1), some (.getfield 19, 3), none, none, some (.getfield 154, 3), none, none, some (.if_icmp .ge 46, 3), none, none, some (.aload_n 0, 1), some (.getfield 26, 3), none, none, some (.getfield 125, 3), none],
  [none, some (.iload 5, 2), none, some (.iload 5, 2), none, some (.iload_n 2, 1), some (.if_icmp .ge 23, 3), none, none, some (.iload_n 1, 1), some (.iload_n 3, 1), some (.iload 5, 2), none, some (.iload 4, 2), none, some (.imul, 1)],
  [some (.iadd, 1), some (.invokestatic 157, 3), none, none, some (.iconst 0, 1), some (.bipush 99, 2), none, some (.invokestatic 160, 3), none, none, some (.goto 4, 3), none, none, some (.iconst 0, 1), some (.iastore, 1), some (.iinc 5 1, 3)],
  [none, none, some (.goto (-52), 3), none, none, some (.aload_n 0, 1), some (.getfield 26, 3), none, none, some (.invokevirtual 164, 3), none, none, some (.ireturn, 1)]]
set_option maxRecDepth 100000 in
theorem zDX7_sheet : zdrows cX7_sheet 0 zJX7_sheet = true := by decide +kernel
def zJX7_sign : List (List (Option (Instr × Nat))) := [[some (.aload_n 0, 1), some (.getfield 10, 3), none, none, some (.iload_n 1, 1), some (.invokevirtual 82, 3), none, none, some (.ireturn, 1)]]
set_option maxRecDepth 100000 in
theorem zDX7_sign : zdrows cX7_sign 0 zJX7_sign = true := by decide +kernel
def zJX7_smoothest : List (List (Option (Instr × Nat))) := [[some (.aload_n 0, 1), some (.iconst (-1), 1), some (.invokevirtual 268, 3), none, none, some (.aload_n 0, 1), some (.invokevirtual 339, 3), none, none, some (.aload_n 0, 1), some (.getfield 54, 3), none, none, some (.aload_n 0, 1), some (.getfield 19, 3), none],
  [none, some (.getfield 119, 3), none, none, some (.aload_n 0, 1), some (.getfield 19, 3), none, none, some (.getfield 154, 3), none, none, some (.invokevirtual 342, 3), none, none, some (.aload_n 0, 1), some (.getfield 54, 3)],
  [none, none, some (.invokevirtual 275, 3), none, none, some (.lstore_n 1, 1), some (.lload_n 1, 1), some (.ldc2_w 262, 3), none, none, some (.lcmp, 1), some (.ifCond .lt 8, 3), none, none, some (.bipush (-2), 2), none],
  [some (.goto 8, 3), none, none, some (.aload_n 0, 1), some (.lload_n 1, 1), some (.invokevirtual 264, 3), none, none, some (.ireturn, 1)]]
set_option maxRecDepth 100000 in
theorem zDX7_smoothest : zdrows cX7_smoothest 0 zJX7_smoothest = true := by decide +kernel
def zJX7_spent : List (List (Option (Instr × Nat))) := [[some (.iload_n 1, 1), some (.ifCond .lt 10, 3), none, none, some (.iload_n 1, 1), some (.sipush 999, 3), none, none, some (.if_icmp .le 5, 3), none, none, some (.iconst (-1), 1), some (.ireturn, 1), some (.iconst 0, 1), some (.istore_n 2, 1), some (.iconst 0, 1)],
  [some (.istore_n 3, 1), some (.iconst 0, 1), some (.istore 4, 2), none, some (.iload 4, 2), none, some (.aload_n 0, 1), some (.getfield 19, 3), none, none, some (.getfield 154, 3), none, none, some (.if_icmp .ge 37, 3), none, none],
  [some (.aload_n 0, 1), some (.iload 4, 2), none, some (.invokevirtual 320, 3), none, none, some (.istore 5, 2), none, some (.iload 5, 2), none, some (.iload_n 1, 1), some (.if_icmp .le 17, 3), none, none, some (.iload_n 2, 1), some (.iconst 1, 1)],
  [some (.iload 4, 2), none, some (.ishl, 1), some (.ior, 1), some (.istore_n 2, 1), some (.iload_n 3, 1), some (.iload 5, 2), none, some (.invokestatic 323, 3), none, none, some (.istore_n 3, 1), some (.iinc 4 1, 3), none, none, some (.goto (-43), 3)],
  [none, none, some (.aload_n 0, 1), some (.getfield 61, 3), none, none, some (.iload_n 2, 1), some (.invokestatic 193, 3), none, none, some (.i2l, 1), some (.iload_n 3, 1), some (.i2l, 1), some (.invokevirtual 208, 3), none, none],
  [some (.iload_n 2, 1), some (.ireturn, 1)]]
set_option maxRecDepth 100000 in
theorem zDX7_spent : zdrows cX7_spent 0 zJX7_spent = true := by decide +kernel
def zJX7_sure : List (List (Option (Instr × Nat))) := [[some (.iload_n 1, 1), some (.ifCond .lt 25, 3), none, none, some (.iload_n 1, 1), some (.aload_n 0, 1), some (.getfield 19, 3), none, none, some (.getfield 141, 3), none, none, some (.if_icmp .ge 14, 3), none, none, some (.aload_n 0, 1)],
  [some (.getfield 19, 3), none, none, some (.iload_n 2, 1), some (.invokevirtual 110, 3), none, none, some (.ifCond .ne 5, 3), none, none, some (.iconst (-1), 1), some (.ireturn, 1), some (.aload_n 0, 1), some (.invokevirtual 348, 3), none, none],
  [some (.aload_n 0, 1), some (.getfield 54, 3), none, none, some (.invokevirtual 351, 3), none, none, some (.istore_n 3, 1), some (.iload_n 3, 1), some (.ifCond .ne 6, 3), none, none, some (.bipush (-2), 2), none, some (.ireturn, 1), some (.aload_n 0, 1)],
  [some (.getfield 54, 3), none, none, some (.iload_n 1, 1), some (.iload_n 2, 1), some (.invokevirtual 354, 3), none, none, some (.aload_n 0, 1), some (.getfield 54, 3), none, none, some (.invokevirtual 351, 3), none, none, some (.istore 4, 2)],
  [none, some (.aload_n 0, 1), some (.iload 4, 2), none, some (.i2l, 1), some (.iload_n 3, 1), some (.i2l, 1), some (.invokevirtual 358, 3), none, none, some (.iload 4, 2), none, some (.ireturn, 1)]]
set_option maxRecDepth 100000 in
theorem zDX7_sure : zdrows cX7_sure 0 zJX7_sure = true := by decide +kernel
def zJX7_takeRota : List (List (Option (Instr × Nat))) := [[some (.iconst 0, 1), some (.istore_n 1, 1), some (.iconst 0, 1), some (.istore_n 2, 1), some (.iload_n 2, 1), some (.bipush 8, 2), none, some (.if_icmp .ge 71, 3), none, none, some (.iload_n 2, 1), some (.aload_n 0, 1), some (.getfield 19, 3), none, none, some (.getfield 141, 3)],
  [none, none, some (.if_icmp .ge 14, 3), none, none, some (.aload_n 0, 1), some (.getfield 10, 3), none, none, some (.iload_n 2, 1), some (.invokevirtual 218, 3), none, none, some (.goto 5, 3), none, none],
  [some (.bipush 45, 2), none, some (.istore_n 3, 1), some (.aload_n 0, 1), some (.getfield 26, 3), none, none, some (.getfield 183, 3), none, none, some (.iload_n 2, 1), some (.iload_n 3, 1), some (.bipush 45, 2), none, some (.if_icmp .ne 7, 3), none],
  [none, some (.iconst (-1), 1), some (.goto 7, 3), none, none, some (.iload_n 3, 1), some (.bipush 48, 2), none, some (.isub, 1), some (.iastore, 1), some (.iload_n 1, 1), some (.iload_n 3, 1), some (.bipush 45, 2), none, some (.if_icmp .ne 7, 3), none],
  [none, some (.iconst 0, 1), some (.goto 4, 3), none, none, some (.iconst 1, 1), some (.iadd, 1), some (.istore_n 1, 1), some (.iinc 2 1, 3), none, none, some (.goto (-71), 3), none, none, some (.iload_n 1, 1), some (.ireturn, 1)]]
set_option maxRecDepth 100000 in
theorem zDX7_takeRota : zdrows cX7_takeRota 0 zJX7_takeRota = true := by decide +kernel
def zJX7_takes : List (List (Option (Instr × Nat))) := [[some (.aload_n 0, 1), some (.iconst (-1), 1), some (.invokevirtual 258, 3), none, none, some (.lstore_n 1, 1), some (.lload_n 1, 1), some (.ldc2_w 262, 3), none, none, some (.lcmp, 1), some (.ifCond .lt 6, 3), none, none, some (.bipush (-2), 2), none],
  [some (.ireturn, 1), some (.aload_n 0, 1), some (.getfield 39, 3), none, none, some (.aload_n 0, 1), some (.getfield 26, 3), none, none, some (.invokevirtual 177, 3), none, none, some (.iconst 0, 1), some (.istore_n 3, 1), some (.iconst 0, 1), some (.istore 4, 2)],
  [none, some (.iload 4, 2), none, some (.aload_n 0, 1), some (.getfield 19, 3), none, none, some (.getfield 141, 3), none, none, some (.if_icmp .ge 52, 3), none, none, some (.lload_n 1, 1), some (.iload 4, 2), none],
  [some (.invokestatic 293, 3), none, none, some (.istore 5, 2), none, some (.iload_n 3, 1), some (.aload_n 0, 1), some (.getfield 26, 3), none, none, some (.getfield 183, 3), none, none, some (.iload 4, 2), none, some (.iaload, 1)],
  [some (.iload 5, 2), none, some (.if_icmp .ne 7, 3), none, none, some (.iconst 0, 1), some (.goto 4, 3), none, none, some (.iconst 1, 1), some (.iadd, 1), some (.istore_n 3, 1), some (.aload_n 0, 1), some (.getfield 26, 3), none, none],
  [some (.getfield 183, 3), none, none, some (.iload 4, 2), none, some (.iload 5, 2), none, some (.iastore, 1), some (.iinc 4 1, 3), none, none, some (.goto (-58), 3), none, none, some (.iload_n 3, 1), some (.ireturn, 1)]]
set_option maxRecDepth 100000 in
theorem zDX7_takes : zdrows cX7_takes 0 zJX7_takes = true := by decide +kernel
def zJX7_tellFraction : List (List (Option (Instr × Nat))) := [[some (.lload_n 1, 1), some (.lload_n 3, 1), some (.invokestatic 403, 3), none, none, some (.lstore 5, 2), none, some (.lload 5, 2), none, some (.lconst 0, 1), some (.lcmp, 1), some (.ifCond .le 18, 3), none, none, some (.aload_n 0, 1), some (.getfield 61, 3)],
  [none, none, some (.lload_n 1, 1), some (.lload 5, 2), none, some (.ldiv, 1), some (.lload_n 3, 1), some (.lload 5, 2), none, some (.ldiv, 1), some (.invokevirtual 208, 3), none, none, some (.return_, 1)]]
set_option maxRecDepth 100000 in
theorem zDX7_tellFraction : zdrows cX7_tellFraction 0 zJX7_tellFraction = true := by decide +kernel
def zJX7_tellRota : List (List (Option (Instr × Nat))) := [[some (.aload_n 0, 1), some (.getfield 61, 3), none, none, some (.invokevirtual 316, 3), none, none, some (.iconst 0, 1), some (.istore_n 3, 1), some (.iload_n 3, 1), some (.aload_n 0, 1), some (.getfield 19, 3), none, none, some (.getfield 141, 3), none],
  [none, some (.if_icmp .ge 22, 3), none, none, some (.aload_n 0, 1), some (.getfield 61, 3), none, none, some (.lload_n 1, 1), some (.iload_n 3, 1), some (.invokestatic 293, 3), none, none, some (.i2l, 1), some (.invokevirtual 256, 3), none],
  [none, some (.iinc 3 1, 3), none, none, some (.goto (-27), 3), none, none, some (.lload_n 1, 1), some (.invokestatic 297, 3), none, none, some (.ireturn, 1)]]
set_option maxRecDepth 100000 in
theorem zDX7_tellRota : zdrows cX7_tellRota 0 zJX7_tellRota = true := by decide +kernel
def zJX7_tellWays : List (List (Option (Instr × Nat))) := [[some (.aload_n 0, 1), some (.getfield 54, 3), none, none, some (.invokevirtual 351, 3), none, none, some (.istore_n 1, 1), some (.aload_n 0, 1), some (.getfield 61, 3), none, none, some (.invokevirtual 316, 3), none, none, some (.iload_n 1, 1)],
  [some (.ifCond .le 19, 3), none, none, some (.aload_n 0, 1), some (.invokevirtual 339, 3), none, none, some (.aload_n 0, 1), some (.aload_n 0, 1), some (.getfield 54, 3), none, none, some (.invokevirtual 275, 3), none, none, some (.invokevirtual 264, 3)],
  [none, none, some (.pop, 1), some (.iload_n 1, 1), some (.ireturn, 1)]]
set_option maxRecDepth 100000 in
theorem zDX7_tellWays : zdrows cX7_tellWays 0 zJX7_tellWays = true := by decide +kernel
def zJX7_thin : List (List (Option (Instr × Nat))) := [[some (.bipush 9, 2), none, some (.istore_n 1, 1), some (.iconst 0, 1), some (.istore_n 2, 1), some (.iconst 0, 1), some (.istore_n 3, 1), some (.iload_n 3, 1), some (.aload_n 0, 1), some (.getfield 19, 3), none, none, some (.getfield 141, 3), none, none, some (.if_icmp .ge 71, 3)],
  [none, none, some (.iconst 0, 1), some (.istore 4, 2), none, some (.iconst 0, 1), some (.istore 5, 2), none, some (.iload 5, 2), none, some (.aload_n 0, 1), some (.getfield 19, 3), none, none, some (.getfield 154, 3), none],
  [none, some (.if_icmp .ge 36, 3), none, none, some (.iload 4, 2), none, some (.aload_n 0, 1), some (.getfield 19, 3), none, none, some (.aload_n 0, 1), some (.getfield 26, 3), none, none, some (.iload 5, 2), none],
  [some (.iload_n 3, 1), some (.invokevirtual 332, 3), none, none, some (.ifCond .eq 7, 3), none, none, some (.iconst 1, 1), some (.goto 4, 3), none, none, some (.iconst 0, 1), some (.iadd, 1), some (.istore 4, 2), none, some (.iinc 5 1, 3)],
  [none, none, some (.goto (-42), 3), none, none, some (.iload 4, 2), none, some (.iload_n 1, 1), some (.if_icmp .ge 8, 3), none, none, some (.iload 4, 2), none, some (.istore_n 1, 1), some (.iload_n 3, 1), some (.istore_n 2, 1)],
  [some (.iinc 3 1, 3), none, none, some (.goto (-76), 3), none, none, some (.aload_n 0, 1), some (.getfield 61, 3), none, none, some (.iload_n 1, 1), some (.i2l, 1), some (.invokevirtual 247, 3), none, none, some (.iload_n 2, 1)],
  [some (.ireturn, 1)]]
set_option maxRecDepth 100000 in
theorem zDX7_thin : zdrows cX7_thin 0 zJX7_thin = true := by decide +kernel
def zJX7_trade : List (List (Option (Instr × Nat))) := [[some (.aload_n 0, 1), some (.getfield 19, 3), none, none, some (.getfield 141, 3), none, none, some (.iconst 2, 1), some (.if_icmp .ge 6, 3), none, none, some (.bipush (-2), 2), none, some (.ireturn, 1), some (.aload_n 0, 1), some (.getfield 33, 3)],
  [none, none, some (.aload_n 0, 1), some (.getfield 26, 3), none, none, some (.invokevirtual 170, 3), none, none, some (.bipush 9, 2), none, some (.istore_n 1, 1), some (.iconst 0, 1), some (.istore_n 2, 1), some (.iconst 0, 1), some (.istore_n 3, 1)],
  [some (.iconst 0, 1), some (.istore 4, 2), none, some (.iload 4, 2), none, some (.aload_n 0, 1), some (.getfield 19, 3), none, none, some (.getfield 141, 3), none, none, some (.if_icmp .ge 58, 3), none, none, some (.iload 4, 2)],
  [none, some (.iconst 1, 1), some (.iadd, 1), some (.istore 5, 2), none, some (.iload 5, 2), none, some (.aload_n 0, 1), some (.getfield 19, 3), none, none, some (.getfield 141, 3), none, none, some (.if_icmp .ge 34, 3), none],
  [none, some (.aload_n 0, 1), some (.iload 4, 2), none, some (.iload 5, 2), none, some (.invokevirtual 253, 3), none, none, some (.istore 6, 2), none, some (.iload 6, 2), none, some (.iload_n 1, 1), some (.if_icmp .ge 12, 3), none],
  [none, some (.iload 6, 2), none, some (.istore_n 1, 1), some (.iload 4, 2), none, some (.istore_n 2, 1), some (.iload 5, 2), none, some (.istore_n 3, 1), some (.iinc 5 1, 3), none, none, some (.goto (-40), 3), none, none],
  [some (.iinc 4 1, 3), none, none, some (.goto (-64), 3), none, none, some (.aload_n 0, 1), some (.getfield 19, 3), none, none, some (.aload_n 0, 1), some (.getfield 26, 3), none, none, some (.invokevirtual 232, 3), none],
  [none, some (.aload_n 0, 1), some (.getfield 61, 3), none, none, some (.iload_n 2, 1), some (.i2l, 1), some (.iload_n 3, 1), some (.i2l, 1), some (.invokevirtual 208, 3), none, none, some (.aload_n 0, 1), some (.getfield 61, 3), none, none],
  [some (.aload_n 0, 1), some (.getfield 19, 3), none, none, some (.getfield 235, 3), none, none, some (.invokestatic 193, 3), none, none, some (.i2l, 1), some (.invokevirtual 256, 3), none, none, some (.iload_n 1, 1), some (.ireturn, 1)]]
set_option maxRecDepth 100000 in
theorem zDX7_trade : zdrows cX7_trade 0 zJX7_trade = true := by decide +kernel
def zJX7_undo : List (List (Option (Instr × Nat))) := [[some (.aload_n 0, 1), some (.getfield 39, 3), none, none, some (.aload_n 0, 1), some (.getfield 26, 3), none, none, some (.invokevirtual 228, 3), none, none, some (.ireturn, 1)]]
set_option maxRecDepth 100000 in
theorem zDX7_undo : zdrows cX7_undo 0 zJX7_undo = true := by decide +kernel
def zJX7_vigil : List (List (Option (Instr × Nat))) := [[some (.iload_n 1, 1), some (.ifCond .lt 9, 3), none, none, some (.iload_n 1, 1), some (.bipush 60, 2), none, some (.if_icmp .le 5, 3), none, none, some (.iconst (-1), 1), some (.ireturn, 1), some (.aload_n 0, 1), some (.getfield 33, 3), none, none],
  [some (.aload_n 0, 1), some (.getfield 26, 3), none, none, some (.invokevirtual 170, 3), none, none, some (.iconst 0, 1), some (.istore_n 2, 1), some (.iconst (-1), 1), some (.istore_n 3, 1), some (.iconst 0, 1), some (.istore 4, 2), none, some (.iconst 0, 1), some (.istore 5, 2)],
  [none, some (.iload 5, 2), none, some (.iload_n 1, 1), some (.if_icmp .ge 57, 3), none, none, some (.aload_n 0, 1), some (.getfield 19, 3), none, none, some (.aload_n 0, 1), some (.getfield 33, 3), none, none, some (.invokevirtual 241, 3)],
  [none, none, some (.aload_n 0, 1), some (.getfield 19, 3), none, none, some (.getfield 235, 3), none, none, some (.ifCond .ne 10, 3), none, none, some (.iload 4, 2), none, some (.iconst 1, 1), some (.iadd, 1)],
  [some (.goto 4, 3), none, none, some (.iconst 0, 1), some (.istore 4, 2), none, some (.iload 4, 2), none, some (.iload_n 2, 1), some (.if_icmp .le 14, 3), none, none, some (.iload 4, 2), none, some (.istore_n 2, 1), some (.iload 5, 2)],
  [none, some (.iload 4, 2), none, some (.isub, 1), some (.iconst 1, 1), some (.iadd, 1), some (.istore_n 3, 1), some (.iinc 5 1, 3), none, none, some (.goto (-57), 3), none, none, some (.aload_n 0, 1), some (.getfield 61, 3), none],
  [none, some (.iload_n 3, 1), some (.i2l, 1), some (.invokevirtual 247, 3), none, none, some (.iload_n 2, 1), some (.ireturn, 1)]]
set_option maxRecDepth 100000 in
theorem zDX7_vigil : zdrows cX7_vigil 0 zJX7_vigil = true := by decide +kernel
def zJX7_wellOnes : List (List (Option (Instr × Nat))) := [[some (.iconst 1, 1), some (.aload_n 0, 1), some (.getfield 19, 3), none, none, some (.getfield 154, 3), none, none, some (.ishl, 1), some (.iconst 1, 1), some (.isub, 1), some (.aload_n 0, 1), some (.getfield 26, 3), none, none, some (.getfield 190, 3)],
  [none, none, some (.iconst (-1), 1), some (.ixor, 1), some (.iand, 1), some (.ireturn, 1)]]
set_option maxRecDepth 100000 in
theorem zDX7_wellOnes : zdrows cX7_wellOnes 0 zJX7_wellOnes = true := by decide +kernel
def zJX7_year : List (List (Option (Instr × Nat))) := [[some (.aload_n 0, 1), some (.invokevirtual 212, 3), none, none, some (.istore_n 1, 1), some (.iload_n 1, 1), some (.iconst (-1), 1), some (.if_icmp .eq 14, 3), none, none, some (.aload_n 0, 1), some (.getfield 10, 3), none, none, some (.invokevirtual 94, 3), none],
  [none, some (.iconst (-1), 1), some (.iload_n 1, 1), some (.isub, 1), some (.ireturn, 1), some (.aload_n 0, 1), some (.getfield 30, 3), none, none, some (.aload_n 0, 1), some (.getfield 26, 3), none, none, some (.invokevirtual 170, 3), none, none],
  [some (.iconst 0, 1), some (.istore_n 2, 1), some (.iconst 0, 1), some (.istore_n 3, 1), some (.iconst 1, 1), some (.istore 4, 2), none, some (.iconst 0, 1), some (.istore 5, 2), none, some (.iload 5, 2), none, some (.bipush 60, 2), none, some (.if_icmp .ge 86, 3), none],
  [none, some (.iload 4, 2), none, some (.ifCond .eq 81, 3), none, none, some (.iload_n 3, 1), some (.aload_n 0, 1), some (.getfield 10, 3), none, none, some (.getfield 215, 3), none, none, some (.if_icmp .ge 70, 3), none],
  [none, some (.aload_n 0, 1), some (.aload_n 0, 1), some (.getfield 10, 3), none, none, some (.iload_n 3, 1), some (.invokevirtual 218, 3), none, none, some (.aload_n 0, 1), some (.getfield 10, 3), none, none, some (.iload_n 3, 1), some (.iconst 1, 1)],
  [some (.iadd, 1), some (.invokevirtual 218, 3), none, none, some (.aload_n 0, 1), some (.getfield 10, 3), none, none, some (.iload_n 3, 1), some (.iconst 2, 1), some (.iadd, 1), some (.invokevirtual 218, 3), none, none, some (.invokevirtual 221, 3), none],
  [none, some (.istore 4, 2), none, some (.iload_n 3, 1), some (.aload_n 0, 1), some (.getfield 10, 3), none, none, some (.iload_n 3, 1), some (.invokevirtual 218, 3), none, none, some (.invokestatic 225, 3), none, none, some (.iadd, 1)],
  [some (.istore_n 3, 1), some (.iload_n 2, 1), some (.iload 4, 2), none, some (.ifCond .eq 7, 3), none, none, some (.iconst 1, 1), some (.goto 4, 3), none, none, some (.iconst 0, 1), some (.iadd, 1), some (.istore_n 2, 1), some (.iinc 5 1, 3), none],
  [none, some (.goto (-87), 3), none, none, some (.iload_n 2, 1), some (.ifCond .le 14, 3), none, none, some (.aload_n 0, 1), some (.getfield 39, 3), none, none, some (.aload_n 0, 1), some (.getfield 30, 3), none, none],
  [some (.invokevirtual 177, 3), none, none, some (.aload_n 0, 1), some (.getfield 10, 3), none, none, some (.invokevirtual 94, 3), none, none, some (.aload_n 0, 1), some (.getfield 61, 3), none, none, some (.iload 4, 2), none],
  [some (.ifCond .eq 7, 3), none, none, some (.lconst 0, 1), some (.goto 4, 3), none, none, some (.lconst 1, 1), some (.aload_n 0, 1), some (.getfield 26, 3), none, none, some (.getfield 198, 3), none, none, some (.i2l, 1)],
  [some (.invokevirtual 208, 3), none, none, some (.iload_n 2, 1), some (.ireturn, 1)]]
set_option maxRecDepth 100000 in
theorem zDX7_year : zdrows cX7_year 0 zJX7_year = true := by decide +kernel
