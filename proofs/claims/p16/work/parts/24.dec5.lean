def zJX8_rota : List (List (Option (Instr × Nat))) := [[some (.aload_n 0, 1), some (.iconst 0, 1), some (.putfield 114, 3), none, none, some (.aload_n 0, 1), some (.aload_n 0, 1), some (.getfield 13, 3), none, none, some (.invokevirtual 173, 3), none, none, some (.iconst 0, 1), some (.istore_n 1, 1), some (.iload_n 1, 1)],
  [some (.aload_n 0, 1), some (.getfield 13, 3), none, none, some (.if_icmp .ge 82, 3), none, none, some (.aload_n 0, 1), some (.invokevirtual 153, 3), none, none, some (.ifCond .eq 75, 3), none, none, some (.aload_n 0, 1), some (.invokevirtual 157, 3)],
  [none, none, some (.bipush 45, 2), none, some (.if_icmp .ne 7, 3), none, none, some (.iconst (-1), 1), some (.goto 10, 3), none, none, some (.aload_n 0, 1), some (.invokevirtual 157, 3), none, none, some (.bipush 48, 2)],
  [none, some (.isub, 1), some (.istore_n 2, 1), some (.aload_n 0, 1), some (.invokevirtual 157, 3), none, none, some (.bipush 45, 2), none, some (.if_icmp .eq 22, 3), none, none, some (.aload_n 0, 1), some (.iload_n 2, 1), some (.invokevirtual 127, 3), none],
  [none, some (.ifCond .ne 14, 3), none, none, some (.aload_n 0, 1), some (.aload_n 0, 1), some (.getfield 143, 3), none, none, some (.invokevirtual 165, 3), none, none, some (.goto 20, 3), none, none, some (.aload_n 0, 1)],
  [some (.dup, 1), some (.getfield 143, 3), none, none, some (.iconst 1, 1), some (.iadd, 1), some (.putfield 143, 3), none, none, some (.aload_n 0, 1), some (.getfield 37, 3), none, none, some (.iload_n 1, 1), some (.iload_n 2, 1), some (.iastore, 1)],
  [some (.iinc 1 1, 3), none, none, some (.goto (-84), 3), none, none, some (.aload_n 0, 1), some (.invokevirtual 179, 3), none, none, some (.ifCond .ne 10, 3), none, none, some (.iconst (-1), 1), some (.aload_n 0, 1), some (.getfield 146, 3)],
  [none, none, some (.isub, 1), some (.ireturn, 1), some (.aload_n 0, 1), some (.aload_n 0, 1), some (.getfield 9, 3), none, none, some (.invokevirtual 253, 3), none, none, some (.iconst 0, 1), some (.istore_n 1, 1), some (.iconst 0, 1), some (.istore_n 2, 1)],
  [some (.iload_n 2, 1), some (.bipush 8, 2), none, some (.if_icmp .ge 51, 3), none, none, some (.aload_n 0, 1), some (.getfield 9, 3), none, none, some (.iload_n 2, 1), some (.iload_n 2, 1), some (.aload_n 0, 1), some (.getfield 13, 3), none, none],
  [some (.if_icmp .ge 12, 3), none, none, some (.aload_n 0, 1), some (.getfield 37, 3), none, none, some (.iload_n 2, 1), some (.iaload, 1), some (.goto 4, 3), none, none, some (.iconst (-1), 1), some (.iastore, 1), some (.iload_n 1, 1), some (.aload_n 0, 1)],
  [some (.getfield 9, 3), none, none, some (.iload_n 2, 1), some (.iaload, 1), some (.iconst (-1), 1), some (.if_icmp .ne 7, 3), none, none, some (.iconst 0, 1), some (.goto 4, 3), none, none, some (.iconst 1, 1), some (.iadd, 1), some (.istore_n 1, 1)],
  [some (.iinc 2 1, 3), none, none, some (.goto (-51), 3), none, none, some (.iload_n 1, 1), some (.ireturn, 1)]]
set_option maxRecDepth 100000 in
theorem zDX8_rota : zdrows cX8_rota 0 zJX8_rota = true := by decide +kernel
def zJX8_rotas : List (List (Option (Instr × Nat))) := [[some (.aload_n 0, 1), some (.iconst 0, 1), some (.putfield 114, 3), none, none, some (.aload_n 0, 1), some (.iconst (-1), 1), some (.invokevirtual 335, 3), none, none, some (.aload_n 0, 1), some (.invokevirtual 353, 3), none, none, some (.ireturn, 1)]]
set_option maxRecDepth 100000 in
theorem zDX8_rotas : zdrows cX8_rotas 0 zJX8_rotas = true := by decide +kernel
def zJX8_row : List (List (Option (Instr × Nat))) := [[some (.aload_n 0, 1), some (.iconst 0, 1), some (.putfield 114, 3), none, none, some (.iload_n 1, 1), some (.iconst 0, 1), some (.aload_n 0, 1), some (.getfield 117, 3), none, none, some (.iconst 1, 1), some (.isub, 1), some (.invokestatic 123, 3), none, none],
  [some (.ifCond .eq 12, 3), none, none, some (.aload_n 0, 1), some (.getfield 33, 3), none, none, some (.iload_n 1, 1), some (.laload, 1), some (.goto 8, 3), none, none, some (.aload_n 0, 1), some (.invokevirtual 235, 3), none, none],
  [some (.i2l, 1), some (.lreturn, 1)]]
set_option maxRecDepth 100000 in
theorem zDX8_row : zdrows cX8_row 0 zJX8_row = true := by decide +kernel
def zJX8_rule : List (List (Option (Instr × Nat))) := [[some (.aload_n 0, 1), some (.iconst 0, 1), some (.putfield 114, 3), none, none, some (.aload_n 0, 1), some (.getfield 131, 3), none, none, some (.istore_n 1, 1), some (.aload_n 0, 1), some (.invokevirtual 215, 3), none, none, some (.ifCond .ne 10, 3), none],
  [none, some (.iconst (-1), 1), some (.aload_n 0, 1), some (.getfield 146, 3), none, none, some (.isub, 1), some (.ireturn, 1), some (.iconst 0, 1), some (.istore_n 2, 1), some (.iload_n 2, 1), some (.iload_n 1, 1), some (.if_icmp .ge 21, 3), none, none, some (.aload_n 0, 1)],
  [some (.getfield 40, 3), none, none, some (.iload_n 2, 1), some (.aload_n 0, 1), some (.getfield 29, 3), none, none, some (.iload_n 2, 1), some (.baload, 1), some (.bastore, 1), some (.iinc 2 1, 3), none, none, some (.goto (-20), 3), none],
  [none, some (.aload_n 0, 1), some (.iload_n 1, 1), some (.putfield 218, 3), none, none, some (.iconst 0, 1), some (.ireturn, 1)]]
set_option maxRecDepth 100000 in
theorem zDX8_rule : zdrows cX8_rule 0 zJX8_rule = true := by decide +kernel
def zJX8_set : List (List (Option (Instr × Nat))) := [[some (.aload_n 0, 1), some (.iconst 0, 1), some (.putfield 114, 3), none, none, some (.iload_n 1, 1), some (.ifCond .ne 16, 3), none, none, some (.iload_n 2, 1), some (.iconst 1, 1), some (.bipush 8, 2), none, some (.invokestatic 123, 3), none, none],
  [some (.ifCond .ne 23, 3), none, none, some (.goto 18, 3), none, none, some (.iload_n 1, 1), some (.iconst 1, 1), some (.if_icmp .ne 13, 3), none, none, some (.iload_n 2, 1), some (.iconst 0, 1), some (.bipush 9, 2), none, some (.invokestatic 123, 3)],
  [none, none, some (.ifCond .ne 5, 3), none, none, some (.iconst (-1), 1), some (.ireturn, 1), some (.iload_n 1, 1), some (.ifCond .ne 10, 3), none, none, some (.aload_n 0, 1), some (.getfield 13, 3), none, none, some (.goto 7, 3)],
  [none, none, some (.aload_n 0, 1), some (.getfield 17, 3), none, none, some (.istore_n 3, 1), some (.iload_n 1, 1), some (.ifCond .ne 11, 3), none, none, some (.aload_n 0, 1), some (.iload_n 2, 1), some (.putfield 13, 3), none, none],
  [some (.goto 8, 3), none, none, some (.aload_n 0, 1), some (.iload_n 2, 1), some (.putfield 17, 3), none, none, some (.iload_n 3, 1), some (.ireturn, 1)]]
set_option maxRecDepth 100000 in
theorem zDX8_set : zdrows cX8_set 0 zJX8_set = true := by decide +kernel
def zJX8_shared : List (List (Option (Instr × Nat))) := [[some (.aload_n 0, 1), some (.iconst 0, 1), some (.putfield 114, 3), none, none, some (.aload_n 0, 1), some (.iload_n 1, 1), some (.iload_n 2, 1), some (.invokevirtual 297, 3), none, none, some (.ifCond .ne 5, 3), none, none, some (.iconst (-1), 1), some (.ireturn, 1)],
  [some (.aload_n 0, 1), some (.iconst 0, 1), some (.putfield 117, 3), none, none, some (.aload_n 0, 1), some (.sipush 255, 3), none, none, some (.aload_n 0, 1), some (.getfield 26, 3), none, none, some (.iload_n 1, 1), some (.iaload, 1), some (.aload_n 0, 1)],
  [some (.getfield 26, 3), none, none, some (.iload_n 2, 1), some (.iaload, 1), some (.ior, 1), some (.iconst (-1), 1), some (.ixor, 1), some (.iand, 1), some (.i2l, 1), some (.invokevirtual 284, 3), none, none, some (.aload_n 0, 1), some (.getfield 26, 3), none],
  [none, some (.iload_n 1, 1), some (.iaload, 1), some (.aload_n 0, 1), some (.getfield 26, 3), none, none, some (.iload_n 2, 1), some (.iaload, 1), some (.iand, 1), some (.ireturn, 1)]]
set_option maxRecDepth 100000 in
theorem zDX8_shared : zdrows cX8_shared 0 zJX8_shared = true := by decide +kernel
def zJX8_sheet : List (List (Option (Instr × Nat))) := [[some (.aload_n 0, 1), some (.iconst 0, 1), some (.putfield 114, 3), none, none, some (.iload_n 1, 1), some (.iconst 0, 1), some (.iconst 3, 1), some (.invokestatic 123, 3), none, none, some (.ifCond .eq 9, 3), none, none, some (.iload_n 2, 1), some (.bipush 8, 2)],
  [none, some (.if_icmp .le 5, 3), none, none, some (.iconst (-1), 1), some (.ireturn, 1), some (.iload_n 1, 1), some (.iconst 3, 1), some (.if_icmp .ge 10, 3), none, none, some (.iload_n 2, 1), some (.ifCond .ge 6, 3), none, none, some (.bipush (-2), 2)],
  [none, some (.ireturn, 1), some (.iconst 0, 1), some (.istore 5, 2), none, some (.iload_n 3, 1), some (.istore 6, 2), none, some (.iconst 0, 1), some (.istore 7, 2), none, some (.iload 7, 2), none, some (.aload_n 0, 1), some (.getfield 120, 3), none],
  [none, some (.if_icmp .ge 92, 3), none, none, some (.iload_n 1, 1), some (.ifCond .ne 9, 3), none, none, some (.iload 6, 2), none, some (.i2b, 1), some (.goto 16, 3), none, none, some (.iload_n 1, 1), some (.iconst 1, 1)],
  [some (.if_icmp .ne 9, 3), none, none, some (.iload 6, 2), none, some (.i2s, 1), some (.goto 5, 3), none, none, some (.iload 6, 2), none, some (.istore 8, 2), none, some (.aload_n 0, 1), some (.getfield 9, 3), none],
  [none, some (.bipush 8, 2), none, some (.iload 7, 2), none, some (.iadd, 1), some (.iload_n 1, 1), some (.iconst 3, 1), some (.if_icmp .eq 9, 3), none, none, some (.iload 7, 2), none, some (.iload_n 2, 1), some (.if_icmp .lt 7, 3), none],
  [none, some (.iconst 0, 1), some (.goto 14, 3), none, none, some (.iconst 0, 1), some (.bipush 99, 2), none, some (.iload 8, 2), none, some (.invokestatic 226, 3), none, none, some (.invokestatic 232, 3), none, none],
  [some (.iastore, 1), some (.iload 5, 2), none, some (.aload_n 0, 1), some (.getfield 9, 3), none, none, some (.bipush 8, 2), none, some (.iload 7, 2), none, some (.iadd, 1), some (.iaload, 1), some (.iadd, 1), some (.istore 5, 2), none],
  [some (.iload 6, 2), none, some (.iload 4, 2), none, some (.iadd, 1), some (.istore 6, 2), none, some (.iinc 7 1, 3), none, none, some (.goto (-95), 3), none, none, some (.iload_n 1, 1), some (.iconst 3, 1), some (.if_icmp .ne 8, 3)],
  [none, none, some (.bipush (-3), 2), none, some (.goto 5, 3), none, none, some (.iload 5, 2), none, some (.ireturn, 1)]]
set_option maxRecDepth 100000 in
theorem zDX8_sheet : zdrows cX8_sheet 0 zJX8_sheet = true := by decide +kernel
def zJX8_sign : List (List (Option (Instr × Nat))) := [[some (.aload_n 0, 1), some (.iconst 0, 1), some (.putfield 114, 3), none, none, some (.aload_n 0, 1), some (.getfield 131, 3), none, none, some (.iconst 4, 1), some (.iadd, 1), some (.bipush 80, 2), none, some (.if_icmp .le 5, 3), none, none],
  [some (.iconst (-1), 1), some (.ireturn, 1), some (.iconst 3, 1), some (.istore_n 2, 1), some (.iload_n 2, 1), some (.ifCond .lt 32, 3), none, none, some (.aload_n 0, 1), some (.getfield 29, 3), none, none, some (.aload_n 0, 1), some (.dup, 1), some (.getfield 131, 3), none],
  [none, some (.dup_x1, 1), some (.iconst 1, 1), some (.iadd, 1), some (.putfield 131, 3), none, none, some (.iload_n 1, 1), some (.bipush 8, 2), none, some (.iload_n 2, 1), some (.imul, 1), some (.ishr, 1), some (.i2b, 1), some (.bastore, 1), some (.iinc 2 (-1), 3)],
  [none, none, some (.goto (-30), 3), none, none, some (.aload_n 0, 1), some (.getfield 131, 3), none, none, some (.ireturn, 1)]]
set_option maxRecDepth 100000 in
theorem zDX8_sign : zdrows cX8_sign 0 zJX8_sign = true := by decide +kernel
def zJX8_smoothest : List (List (Option (Instr × Nat))) := [[some (.aload_n 0, 1), some (.iconst 0, 1), some (.putfield 114, 3), none, none, some (.aload_n 0, 1), some (.iconst (-1), 1), some (.invokevirtual 335, 3), none, none, some (.aload_n 0, 1), some (.iconst 2, 1), some (.invokevirtual 329, 3), none, none, some (.ldc 88, 2)],
  [none, some (.if_icmp .ne 6, 3), none, none, some (.bipush (-2), 2), none, some (.ireturn, 1), some (.iconst 0, 1), some (.istore_n 1, 1), some (.iload_n 1, 1), some (.bipush 8, 2), none, some (.if_icmp .ge 16, 3), none, none, some (.aload_n 0, 1)],
  [some (.getfield 58, 3), none, none, some (.iload_n 1, 1), some (.iconst 0, 1), some (.iastore, 1), some (.iinc 1 1, 3), none, none, some (.goto (-16), 3), none, none, some (.iconst 0, 1), some (.istore_n 1, 1), some (.aload_n 0, 1), some (.iconst 0, 1)],
  [some (.iload_n 1, 1), some (.invokevirtual 359, 3), none, none, some (.ifCond .ne 9, 3), none, none, some (.iinc 1 1, 3), none, none, some (.goto (-12), 3), none, none, some (.aload_n 0, 1), some (.invokevirtual 344, 3), none],
  [none, some (.iload_n 1, 1), some (.ireturn, 1)]]
set_option maxRecDepth 100000 in
theorem zDX8_smoothest : zdrows cX8_smoothest 0 zJX8_smoothest = true := by decide +kernel
def zJX8_solve : List (List (Option (Instr × Nat))) := [[some (.iconst 0, 1), some (.istore_n 2, 1), some (.iload_n 2, 1), some (.aload_n 0, 1), some (.invokevirtual 307, 3), none, none, some (.if_icmp .gt 33, 3), none, none, some (.aload_n 0, 1), some (.getfield 82, 3), none, none, some (.aload_n 0, 1), some (.getfield 120, 3)],
  [none, none, some (.bipush 8, 2), none, some (.ishl, 1), some (.iload_n 2, 1), some (.ior, 1), some (.iload_n 2, 1), some (.ifCond .ne 7, 3), none, none, some (.iconst 0, 1), some (.goto 5, 3), none, none, some (.ldc 88, 2)],
  [none, some (.iastore, 1), some (.iinc 2 1, 3), none, none, some (.goto (-35), 3), none, none, some (.aload_n 0, 1), some (.getfield 120, 3), none, none, some (.iconst 1, 1), some (.isub, 1), some (.istore_n 2, 1), some (.iload_n 2, 1)],
  [some (.ifCond .lt 191, 3), none, none, some (.iconst 0, 1), some (.istore_n 3, 1), some (.iload_n 3, 1), some (.aload_n 0, 1), some (.invokevirtual 307, 3), none, none, some (.if_icmp .gt 22, 3), none, none, some (.aload_n 0, 1), some (.getfield 82, 3), none],
  [none, some (.iload_n 2, 1), some (.bipush 8, 2), none, some (.ishl, 1), some (.iload_n 3, 1), some (.ior, 1), some (.ldc 88, 2), none, some (.iastore, 1), some (.iinc 3 1, 3), none, none, some (.goto (-24), 3), none, none],
  [some (.aload_n 0, 1), some (.getfield 67, 3), none, none, some (.iload_n 2, 1), some (.iaload, 1), some (.istore_n 3, 1), some (.iload_n 3, 1), some (.ifCond .lt 145, 3), none, none, some (.aload_n 0, 1), some (.iload_n 2, 1), some (.iload_n 3, 1), some (.invokevirtual 313, 3), none],
  [none, some (.ifCond .ne 6, 3), none, none, some (.goto 111, 3), none, none, some (.aload_n 0, 1), some (.iload_n 1, 1), some (.iload_n 2, 1), some (.iload_n 3, 1), some (.invokevirtual 316, 3), none, none, some (.istore 4, 2), none],
  [some (.aload_n 0, 1), some (.invokevirtual 307, 3), none, none, some (.iload_n 3, 1), some (.iconst (-1), 1), some (.ixor, 1), some (.iand, 1), some (.istore 5, 2), none, some (.iload 5, 2), none, some (.istore 6, 2), none, some (.iload 6, 2), none],
  [some (.ifCond .lt 83, 3), none, none, some (.aload_n 0, 1), some (.getfield 82, 3), none, none, some (.iload_n 2, 1), some (.iconst 1, 1), some (.iadd, 1), some (.bipush 8, 2), none, some (.ishl, 1), some (.iload 6, 2), none, some (.ior, 1)],
  [some (.iaload, 1), some (.istore 7, 2), none, some (.iload 7, 2), none, some (.ldc 88, 2), none, some (.if_icmp .ge 39, 3), none, none, some (.aload_n 0, 1), some (.getfield 82, 3), none, none, some (.iload_n 2, 1), some (.bipush 8, 2)],
  [none, some (.ishl, 1), some (.iload 6, 2), none, some (.ior, 1), some (.iload_n 3, 1), some (.ior, 1), some (.aload_n 0, 1), some (.getfield 82, 3), none, none, some (.iload_n 2, 1), some (.bipush 8, 2), none, some (.ishl, 1), some (.iload 6, 2)],
  [none, some (.ior, 1), some (.iload_n 3, 1), some (.ior, 1), some (.iaload, 1), some (.iload 7, 2), none, some (.iload 4, 2), none, some (.iadd, 1), some (.invokestatic 226, 3), none, none, some (.iastore, 1), some (.iload 6, 2), none],
  [some (.ifCond .ne 7, 3), none, none, some (.iconst (-1), 1), some (.goto 10, 3), none, none, some (.iload 6, 2), none, some (.iconst 1, 1), some (.isub, 1), some (.iload 5, 2), none, some (.iand, 1), some (.istore 6, 2), none],
  [some (.goto (-82), 3), none, none, some (.iload_n 3, 1), some (.ifCond .ne 7, 3), none, none, some (.iconst (-1), 1), some (.goto 13, 3), none, none, some (.iload_n 3, 1), some (.iconst 1, 1), some (.isub, 1), some (.aload_n 0, 1), some (.getfield 67, 3)],
  [none, none, some (.iload_n 2, 1), some (.iaload, 1), some (.iand, 1), some (.istore_n 3, 1), some (.goto (-143), 3), none, none, some (.iinc 2 (-1), 3), none, none, some (.goto (-189), 3), none, none, some (.aload_n 0, 1)],
  [some (.getfield 82, 3), none, none, some (.aload_n 0, 1), some (.invokevirtual 307, 3), none, none, some (.iaload, 1), some (.ireturn, 1)]]
set_option maxRecDepth 100000 in
theorem zDX8_solve : zdrows cX8_solve 0 zJX8_solve = true := by decide +kernel
def zJX8_spent : List (List (Option (Instr × Nat))) := [[some (.aload_n 0, 1), some (.iconst 0, 1), some (.putfield 114, 3), none, none, some (.iload_n 1, 1), some (.iconst 0, 1), some (.sipush 999, 3), none, none, some (.invokestatic 123, 3), none, none, some (.ifCond .ne 5, 3), none, none],
  [some (.iconst (-1), 1), some (.ireturn, 1), some (.iconst 0, 1), some (.istore_n 2, 1), some (.iconst 0, 1), some (.istore_n 3, 1), some (.iconst 0, 1), some (.istore 4, 2), none, some (.iload 4, 2), none, some (.aload_n 0, 1), some (.getfield 120, 3), none, none, some (.if_icmp .ge 83, 3)],
  [none, none, some (.iconst 0, 1), some (.istore 5, 2), none, some (.iload 5, 2), none, some (.bipush 8, 2), none, some (.if_icmp .ge 67, 3), none, none, some (.aload_n 0, 1), some (.getfield 26, 3), none, none],
  [some (.iload 4, 2), none, some (.iaload, 1), some (.iload 5, 2), none, some (.invokestatic 271, 3), none, none, some (.ifCond .eq 46, 3), none, none, some (.aload_n 0, 1), some (.aload_n 0, 1), some (.getfield 9, 3), none, none],
  [some (.iload 4, 2), none, some (.iload 5, 2), none, some (.invokevirtual 245, 3), none, none, some (.iload_n 1, 1), some (.if_icmp .gt 6, 3), none, none, some (.goto 27, 3), none, none, some (.iload_n 2, 1), some (.iconst 1, 1)],
  [some (.iload 4, 2), none, some (.ishl, 1), some (.ior, 1), some (.istore_n 2, 1), some (.iload_n 3, 1), some (.aload_n 0, 1), some (.aload_n 0, 1), some (.getfield 9, 3), none, none, some (.iload 4, 2), none, some (.iload 5, 2), none, some (.invokevirtual 245, 3)],
  [none, none, some (.invokestatic 232, 3), none, none, some (.istore_n 3, 1), some (.iinc 5 1, 3), none, none, some (.goto (-68), 3), none, none, some (.iinc 4 1, 3), none, none, some (.goto (-86), 3)],
  [none, none, some (.aload_n 0, 1), some (.iconst 0, 1), some (.putfield 117, 3), none, none, some (.aload_n 0, 1), some (.iload_n 2, 1), some (.invokestatic 221, 3), none, none, some (.i2l, 1), some (.invokevirtual 284, 3), none, none],
  [some (.aload_n 0, 1), some (.iload_n 3, 1), some (.i2l, 1), some (.invokevirtual 284, 3), none, none, some (.iload_n 2, 1), some (.ireturn, 1)]]
set_option maxRecDepth 100000 in
theorem zDX8_spent : zdrows cX8_spent 0 zJX8_spent = true := by decide +kernel
def zJX8_sum : List (List (Option (Instr × Nat))) := [[some (.aload_n 0, 1), some (.iload_n 1, 1), some (.invokevirtual 192, 3), none, none, some (.istore_n 2, 1), some (.aload_n 0, 1), some (.invokevirtual 153, 3), none, none, some (.ifCond .eq 72, 3), none, none, some (.aload_n 0, 1), some (.invokevirtual 157, 3), none],
  [none, some (.bipush 43, 2), none, some (.if_icmp .eq 12, 3), none, none, some (.aload_n 0, 1), some (.invokevirtual 157, 3), none, none, some (.bipush 45, 2), none, some (.if_icmp .ne 54, 3), none, none, some (.aload_n 0, 1)],
  [some (.invokevirtual 157, 3), none, none, some (.bipush 43, 2), none, some (.if_icmp .ne 7, 3), none, none, some (.iconst 1, 1), some (.goto 4, 3), none, none, some (.iconst 0, 1), some (.istore_n 3, 1), some (.aload_n 0, 1), some (.dup, 1)],
  [some (.getfield 143, 3), none, none, some (.iconst 1, 1), some (.iadd, 1), some (.putfield 143, 3), none, none, some (.aload_n 0, 1), some (.iload_n 1, 1), some (.invokevirtual 192, 3), none, none, some (.istore 4, 2), none, some (.iload_n 3, 1)],
  [some (.ifCond .eq 10, 3), none, none, some (.iload_n 2, 1), some (.iload 4, 2), none, some (.iadd, 1), some (.goto 7, 3), none, none, some (.iload_n 2, 1), some (.iload 4, 2), none, some (.isub, 1), some (.istore_n 2, 1), some (.goto (-73), 3)],
  [none, none, some (.iload_n 2, 1), some (.ireturn, 1)]]
set_option maxRecDepth 100000 in
theorem zDX8_sum : zdrows cX8_sum 0 zJX8_sum = true := by decide +kernel
def zJX8_sure : List (List (Option (Instr × Nat))) := [[some (.aload_n 0, 1), some (.iconst 0, 1), some (.putfield 114, 3), none, none, some (.iload_n 1, 1), some (.iconst 0, 1), some (.aload_n 0, 1), some (.getfield 13, 3), none, none, some (.iconst 1, 1), some (.isub, 1), some (.invokestatic 123, 3), none, none],
  [some (.ifCond .eq 11, 3), none, none, some (.aload_n 0, 1), some (.iload_n 2, 1), some (.invokevirtual 127, 3), none, none, some (.ifCond .ne 5, 3), none, none, some (.iconst (-1), 1), some (.ireturn, 1), some (.aload_n 0, 1), some (.iconst (-1), 1), some (.iconst (-1), 1)],
  [some (.invokevirtual 371, 3), none, none, some (.istore_n 3, 1), some (.iload_n 3, 1), some (.ifCond .ne 6, 3), none, none, some (.bipush (-2), 2), none, some (.ireturn, 1), some (.aload_n 0, 1), some (.iload_n 1, 1), some (.iload_n 2, 1), some (.invokevirtual 371, 3), none],
  [none, some (.istore 4, 2), none, some (.aload_n 0, 1), some (.iload 4, 2), none, some (.i2l, 1), some (.iload_n 3, 1), some (.i2l, 1), some (.invokevirtual 378, 3), none, none, some (.iload 4, 2), none, some (.ireturn, 1)]]
set_option maxRecDepth 100000 in
theorem zDX8_sure : zdrows cX8_sure 0 zJX8_sure = true := by decide +kernel
def zJX8_takes : List (List (Option (Instr × Nat))) := [[some (.aload_n 0, 1), some (.iconst 0, 1), some (.putfield 114, 3), none, none, some (.aload_n 0, 1), some (.iconst (-1), 1), some (.invokevirtual 338, 3), none, none, some (.istore_n 1, 1), some (.iload_n 1, 1), some (.ldc 88, 2), none, some (.if_icmp .ne 6, 3), none],
  [none, some (.bipush (-2), 2), none, some (.ireturn, 1), some (.aload_n 0, 1), some (.iconst 0, 1), some (.iload_n 1, 1), some (.invokevirtual 341, 3), none, none, some (.aload_n 0, 1), some (.aload_n 0, 1), some (.getfield 9, 3), none, none, some (.invokevirtual 253, 3)],
  [none, none, some (.iconst 0, 1), some (.istore_n 2, 1), some (.iconst 0, 1), some (.istore_n 3, 1), some (.iload_n 3, 1), some (.aload_n 0, 1), some (.getfield 13, 3), none, none, some (.if_icmp .ge 44, 3), none, none, some (.iload_n 2, 1), some (.aload_n 0, 1)],
  [some (.getfield 9, 3), none, none, some (.iload_n 3, 1), some (.iaload, 1), some (.aload_n 0, 1), some (.getfield 92, 3), none, none, some (.iload_n 3, 1), some (.iaload, 1), some (.if_icmp .ne 7, 3), none, none, some (.iconst 0, 1), some (.goto 4, 3)],
  [none, none, some (.iconst 1, 1), some (.iadd, 1), some (.istore_n 2, 1), some (.aload_n 0, 1), some (.getfield 9, 3), none, none, some (.iload_n 3, 1), some (.aload_n 0, 1), some (.getfield 92, 3), none, none, some (.iload_n 3, 1), some (.iaload, 1)],
  [some (.iastore, 1), some (.iinc 3 1, 3), none, none, some (.goto (-46), 3), none, none, some (.iload_n 2, 1), some (.ireturn, 1)]]
set_option maxRecDepth 100000 in
theorem zDX8_takes : zdrows cX8_takes 0 zJX8_takes = true := by decide +kernel
def zJX8_tell : List (List (Option (Instr × Nat))) := [[some (.aload_n 0, 1), some (.getfield 33, 3), none, none, some (.aload_n 0, 1), some (.getfield 117, 3), none, none, some (.lload_n 1, 1), some (.lastore, 1), some (.aload_n 0, 1), some (.dup, 1), some (.getfield 117, 3), none, none, some (.iconst 1, 1)],
  [some (.iadd, 1), some (.putfield 117, 3), none, none, some (.return_, 1)]]
set_option maxRecDepth 100000 in
theorem zDX8_tell : zdrows cX8_tell 0 zJX8_tell = true := by decide +kernel
def zJX8_tellLine : List (List (Option (Instr × Nat))) := [[some (.aload_n 0, 1), some (.iconst 0, 1), some (.putfield 117, 3), none, none, some (.iconst 0, 1), some (.istore_n 1, 1), some (.iload_n 1, 1), some (.aload_n 0, 1), some (.getfield 13, 3), none, none, some (.if_icmp .ge 20, 3), none, none, some (.aload_n 0, 1)],
  [some (.aload_n 0, 1), some (.getfield 92, 3), none, none, some (.iload_n 1, 1), some (.iaload, 1), some (.i2l, 1), some (.invokevirtual 284, 3), none, none, some (.iinc 1 1, 3), none, none, some (.goto (-22), 3), none, none],
  [some (.return_, 1)]]
set_option maxRecDepth 100000 in
theorem zDX8_tellLine : zdrows cX8_tellLine 0 zJX8_tellLine = true := by decide +kernel
def zJX8_tellPart : List (List (Option (Instr × Nat))) := [[some (.lload_n 1, 1), some (.lload_n 3, 1), some (.invokestatic 374, 3), none, none, some (.lstore 5, 2), none, some (.aload_n 0, 1), some (.iconst 0, 1), some (.putfield 117, 3), none, none, some (.aload_n 0, 1), some (.lload_n 1, 1), some (.lload 5, 2), none],
  [some (.ldiv, 1), some (.invokevirtual 284, 3), none, none, some (.aload_n 0, 1), some (.lload_n 3, 1), some (.lload 5, 2), none, some (.ldiv, 1), some (.invokevirtual 284, 3), none, none, some (.return_, 1)]]
set_option maxRecDepth 100000 in
theorem zDX8_tellPart : zdrows cX8_tellPart 0 zJX8_tellPart = true := by decide +kernel
def zJX8_tellWays : List (List (Option (Instr × Nat))) := [[some (.aload_n 0, 1), some (.invokevirtual 350, 3), none, none, some (.istore_n 1, 1), some (.aload_n 0, 1), some (.iconst 0, 1), some (.putfield 117, 3), none, none, some (.iload_n 1, 1), some (.ifCond .ne 5, 3), none, none, some (.iconst 0, 1), some (.ireturn, 1)],
  [some (.aload_n 0, 1), some (.iconst 2, 1), some (.iconst 0, 1), some (.invokevirtual 341, 3), none, none, some (.aload_n 0, 1), some (.invokevirtual 344, 3), none, none, some (.iload_n 1, 1), some (.ireturn, 1)]]
set_option maxRecDepth 100000 in
theorem zDX8_tellWays : zdrows cX8_tellWays 0 zJX8_tellWays = true := by decide +kernel
def zJX8_thin : List (List (Option (Instr × Nat))) := [[some (.aload_n 0, 1), some (.iconst 0, 1), some (.putfield 114, 3), none, none, some (.iconst 0, 1), some (.istore_n 1, 1), some (.iconst 1, 1), some (.istore_n 2, 1), some (.iload_n 2, 1), some (.aload_n 0, 1), some (.getfield 13, 3), none, none, some (.if_icmp .ge 24, 3), none],
  [none, some (.aload_n 0, 1), some (.iload_n 2, 1), some (.invokevirtual 356, 3), none, none, some (.aload_n 0, 1), some (.iload_n 1, 1), some (.invokevirtual 356, 3), none, none, some (.if_icmp .ge 5, 3), none, none, some (.iload_n 2, 1), some (.istore_n 1, 1)],
  [some (.iinc 2 1, 3), none, none, some (.goto (-26), 3), none, none, some (.aload_n 0, 1), some (.iconst 0, 1), some (.putfield 117, 3), none, none, some (.aload_n 0, 1), some (.aload_n 0, 1), some (.iload_n 1, 1), some (.invokevirtual 356, 3), none],
  [none, some (.i2l, 1), some (.invokevirtual 284, 3), none, none, some (.iload_n 1, 1), some (.ireturn, 1)]]
set_option maxRecDepth 100000 in
theorem zDX8_thin : zdrows cX8_thin 0 zJX8_thin = true := by decide +kernel
def zJX8_thing : List (List (Option (Instr × Nat))) := [[some (.aload_n 0, 1), some (.bipush 45, 2), none, some (.invokevirtual 161, 3), none, none, some (.ifCond .eq 10, 3), none, none, some (.aload_n 0, 1), some (.iload_n 1, 1), some (.invokevirtual 195, 3), none, none, some (.ineg, 1), some (.ireturn, 1)],
  [some (.aload_n 0, 1), some (.invokevirtual 153, 3), none, none, some (.ifCond .ne 5, 3), none, none, some (.iconst 0, 1), some (.ireturn, 1), some (.aload_n 0, 1), some (.invokevirtual 157, 3), none, none, some (.istore_n 2, 1), some (.iload_n 2, 1), some (.bipush 40, 2)],
  [none, some (.if_icmp .ne 34, 3), none, none, some (.iload_n 1, 1), some (.iconst 4, 1), some (.if_icmp .ge 29, 3), none, none, some (.aload_n 0, 1), some (.dup, 1), some (.getfield 143, 3), none, none, some (.iconst 1, 1), some (.iadd, 1)],
  [some (.putfield 143, 3), none, none, some (.aload_n 0, 1), some (.iload_n 1, 1), some (.iconst 1, 1), some (.iadd, 1), some (.invokevirtual 198, 3), none, none, some (.istore_n 3, 1), some (.aload_n 0, 1), some (.bipush 41, 2), none, some (.invokevirtual 201, 3), none],
  [none, some (.iload_n 3, 1), some (.ireturn, 1), some (.iload_n 2, 1), some (.bipush 48, 2), none, some (.bipush 57, 2), none, some (.invokestatic 123, 3), none, none, some (.ifCond .eq 9, 3), none, none, some (.aload_n 0, 1), some (.iconst 3, 1)],
  [some (.invokevirtual 205, 3), none, none, some (.ireturn, 1), some (.iload_n 2, 1), some (.invokestatic 208, 3), none, none, some (.iconst (-1), 1), some (.if_icmp .ne 13, 3), none, none, some (.aload_n 0, 1), some (.aload_n 0, 1), some (.getfield 143, 3), none],
  [none, some (.invokevirtual 165, 3), none, none, some (.iconst 0, 1), some (.ireturn, 1), some (.aload_n 0, 1), some (.dup, 1), some (.getfield 143, 3), none, none, some (.iconst 1, 1), some (.iadd, 1), some (.putfield 143, 3), none, none],
  [some (.aload_n 0, 1), some (.getfield 211, 3), none, none, some (.ifCond .eq 15, 3), none, none, some (.aload_n 0, 1), some (.getfield 46, 3), none, none, some (.iload_n 2, 1), some (.invokestatic 208, 3), none, none, some (.iaload, 1)],
  [some (.goto 4, 3), none, none, some (.iconst 0, 1), some (.ireturn, 1)]]
set_option maxRecDepth 100000 in
theorem zDX8_thing : zdrows cX8_thing 0 zJX8_thing = true := by decide +kernel
def zJX8_tired : List (List (Option (Instr × Nat))) := [[some (.iconst 0, 1), some (.istore_n 2, 1), some (.iconst 0, 1), some (.istore_n 3, 1), some (.iload_n 3, 1), some (.aload_n 0, 1), some (.getfield 120, 3), none, none, some (.if_icmp .ge 18, 3), none, none, some (.iload_n 2, 1), some (.aload_n 1, 1), some (.bipush 8, 2), none],
  [some (.iload_n 3, 1), some (.iadd, 1), some (.iaload, 1), some (.iadd, 1), some (.istore_n 2, 1), some (.iinc 3 1, 3), none, none, some (.goto (-20), 3), none, none, some (.iload_n 2, 1), some (.ireturn, 1)]]
set_option maxRecDepth 100000 in
theorem zDX8_tired : zdrows cX8_tired 0 zJX8_tired = true := by decide +kernel
def zJX8_trade : List (List (Option (Instr × Nat))) := [[some (.aload_n 0, 1), some (.iconst 0, 1), some (.putfield 114, 3), none, none, some (.aload_n 0, 1), some (.getfield 13, 3), none, none, some (.iconst 1, 1), some (.if_icmp .ne 6, 3), none, none, some (.bipush (-2), 2), none, some (.ireturn, 1)],
  [some (.ldc 88, 2), none, some (.istore_n 1, 1), some (.iconst (-1), 1), some (.istore_n 2, 1), some (.iconst (-1), 1), some (.istore_n 3, 1), some (.iconst 0, 1), some (.istore 4, 2), none, some (.iload 4, 2), none, some (.aload_n 0, 1), some (.getfield 13, 3), none, none],
  [some (.if_icmp .ge 106, 3), none, none, some (.iload 4, 2), none, some (.iconst 1, 1), some (.iadd, 1), some (.istore 5, 2), none, some (.iload 5, 2), none, some (.aload_n 0, 1), some (.getfield 13, 3), none, none, some (.if_icmp .ge 85, 3)],
  [none, none, some (.aload_n 0, 1), some (.getfield 9, 3), none, none, some (.aload_n 0, 1), some (.getfield 55, 3), none, none, some (.iconst 0, 1), some (.invokestatic 249, 3), none, none, some (.aload_n 0, 1), some (.getfield 55, 3)],
  [none, none, some (.iload 4, 2), none, some (.aload_n 0, 1), some (.getfield 9, 3), none, none, some (.iload 5, 2), none, some (.iaload, 1), some (.iastore, 1), some (.aload_n 0, 1), some (.getfield 55, 3), none, none],
  [some (.iload 5, 2), none, some (.aload_n 0, 1), some (.getfield 9, 3), none, none, some (.iload 4, 2), none, some (.iaload, 1), some (.iastore, 1), some (.aload_n 0, 1), some (.aload_n 0, 1), some (.getfield 55, 3), none, none, some (.invokevirtual 277, 3)],
  [none, none, some (.aload_n 0, 1), some (.getfield 265, 3), none, none, some (.invokestatic 221, 3), none, none, some (.iload_n 1, 1), some (.if_icmp .lt 6, 3), none, none, some (.goto 17, 3), none, none],
  [some (.aload_n 0, 1), some (.getfield 265, 3), none, none, some (.invokestatic 221, 3), none, none, some (.istore_n 1, 1), some (.iload 4, 2), none, some (.istore_n 2, 1), some (.iload 5, 2), none, some (.istore_n 3, 1), some (.iinc 5 1, 3), none],
  [none, some (.goto (-88), 3), none, none, some (.iinc 4 1, 3), none, none, some (.goto (-109), 3), none, none, some (.aload_n 0, 1), some (.getfield 9, 3), none, none, some (.aload_n 0, 1), some (.getfield 55, 3)],
  [none, none, some (.iconst 0, 1), some (.invokestatic 249, 3), none, none, some (.aload_n 0, 1), some (.aload_n 0, 1), some (.getfield 55, 3), none, none, some (.invokevirtual 277, 3), none, none, some (.aload_n 0, 1), some (.iconst 0, 1)],
  [some (.putfield 117, 3), none, none, some (.aload_n 0, 1), some (.iload_n 2, 1), some (.i2l, 1), some (.invokevirtual 284, 3), none, none, some (.aload_n 0, 1), some (.iload_n 3, 1), some (.i2l, 1), some (.invokevirtual 284, 3), none, none, some (.aload_n 0, 1)],
  [some (.aload_n 0, 1), some (.getfield 265, 3), none, none, some (.invokestatic 221, 3), none, none, some (.i2l, 1), some (.invokevirtual 284, 3), none, none, some (.iload_n 1, 1), some (.ireturn, 1)]]
set_option maxRecDepth 100000 in
theorem zDX8_trade : zdrows cX8_trade 0 zJX8_trade = true := by decide +kernel
def zJX8_undo : List (List (Option (Instr × Nat))) := [[some (.aload_n 0, 1), some (.iconst 0, 1), some (.putfield 114, 3), none, none, some (.aload_n 0, 1), some (.getfield 182, 3), none, none, some (.ifCond .ne 5, 3), none, none, some (.iconst (-1), 1), some (.ireturn, 1), some (.aload_n 0, 1), some (.dup, 1)],
  [some (.getfield 182, 3), none, none, some (.iconst 1, 1), some (.isub, 1), some (.putfield 182, 3), none, none, some (.iconst 0, 1), some (.istore_n 1, 1), some (.iload_n 1, 1), some (.bipush 27, 2), none, some (.if_icmp .ge 29, 3), none, none],
  [some (.aload_n 0, 1), some (.getfield 9, 3), none, none, some (.iload_n 1, 1), some (.aload_n 0, 1), some (.getfield 49, 3), none, none, some (.bipush 27, 2), none, some (.aload_n 0, 1), some (.getfield 182, 3), none, none, some (.imul, 1)],
  [some (.iload_n 1, 1), some (.iadd, 1), some (.iaload, 1), some (.iastore, 1), some (.iinc 1 1, 3), none, none, some (.goto (-29), 3), none, none, some (.aload_n 0, 1), some (.getfield 182, 3), none, none, some (.ireturn, 1)]]
set_option maxRecDepth 100000 in
theorem zDX8_undo : zdrows cX8_undo 0 zJX8_undo = true := by decide +kernel
def zJX8_vigil : List (List (Option (Instr × Nat))) := [[some (.aload_n 0, 1), some (.iconst 0, 1), some (.putfield 114, 3), none, none, some (.iload_n 1, 1), some (.iconst 0, 1), some (.bipush 60, 2), none, some (.invokestatic 123, 3), none, none, some (.ifCond .ne 5, 3), none, none, some (.iconst (-1), 1)],
  [some (.ireturn, 1), some (.aload_n 0, 1), some (.getfield 9, 3), none, none, some (.aload_n 0, 1), some (.getfield 55, 3), none, none, some (.iconst 0, 1), some (.invokestatic 249, 3), none, none, some (.iconst 0, 1), some (.istore_n 2, 1), some (.iconst (-1), 1)],
  [some (.istore_n 3, 1), some (.iconst 0, 1), some (.istore 4, 2), none, some (.iconst 0, 1), some (.istore 5, 2), none, some (.iload 5, 2), none, some (.iload_n 1, 1), some (.if_icmp .ge 54, 3), none, none, some (.aload_n 0, 1), some (.aload_n 0, 1), some (.getfield 55, 3)],
  [none, none, some (.invokevirtual 277, 3), none, none, some (.aload_n 0, 1), some (.getfield 265, 3), none, none, some (.ifCond .ne 10, 3), none, none, some (.iload 4, 2), none, some (.iconst 1, 1), some (.iadd, 1)],
  [some (.goto 4, 3), none, none, some (.iconst 0, 1), some (.istore 4, 2), none, some (.iload 4, 2), none, some (.iload_n 2, 1), some (.if_icmp .gt 6, 3), none, none, some (.goto 14, 3), none, none, some (.iload 4, 2)],
  [none, some (.istore_n 2, 1), some (.iload 5, 2), none, some (.iload 4, 2), none, some (.isub, 1), some (.iconst 1, 1), some (.iadd, 1), some (.istore_n 3, 1), some (.iinc 5 1, 3), none, none, some (.goto (-54), 3), none, none],
  [some (.aload_n 0, 1), some (.iconst 0, 1), some (.putfield 117, 3), none, none, some (.aload_n 0, 1), some (.iload_n 3, 1), some (.i2l, 1), some (.invokevirtual 284, 3), none, none, some (.iload_n 2, 1), some (.ireturn, 1)]]
set_option maxRecDepth 100000 in
theorem zDX8_vigil : zdrows cX8_vigil 0 zJX8_vigil = true := by decide +kernel
def zJX8_wasRight : List (List (Option (Instr × Nat))) := [[some (.aload_n 0, 1), some (.getfield 143, 3), none, none, some (.aload_n 0, 1), some (.getfield 137, 3), none, none, some (.if_icmp .ge 11, 3), none, none, some (.aload_n 0, 1), some (.aload_n 0, 1), some (.getfield 143, 3), none, none],
  [some (.invokevirtual 165, 3), none, none, some (.aload_n 0, 1), some (.invokevirtual 153, 3), none, none, some (.ireturn, 1)]]
set_option maxRecDepth 100000 in
theorem zDX8_wasRight : zdrows cX8_wasRight 0 zJX8_wasRight = true := by decide +kernel
def zJX8_well : List (List (Option (Instr × Nat))) := [[some (.iconst 1, 1), some (.aload_n 0, 1), some (.getfield 120, 3), none, none, some (.ishl, 1), some (.iconst 1, 1), some (.isub, 1), some (.aload_n 0, 1), some (.aload_n 0, 1), some (.getfield 9, 3), none, none, some (.invokevirtual 261, 3), none, none],
  [some (.iconst (-1), 1), some (.ixor, 1), some (.iand, 1), some (.ireturn, 1)]]
set_option maxRecDepth 100000 in
theorem zDX8_well : zdrows cX8_well 0 zJX8_well = true := by decide +kernel
def zJX8_year : List (List (Option (Instr × Nat))) := [[some (.aload_n 0, 1), some (.iconst 0, 1), some (.putfield 114, 3), none, none, some (.aload_n 0, 1), some (.bipush 60, 2), none, some (.invokevirtual 173, 3), none, none, some (.iconst 0, 1), some (.istore_n 1, 1), some (.aload_n 0, 1), some (.invokevirtual 153, 3), none],
  [none, some (.ifCond .eq 27, 3), none, none, some (.aload_n 0, 1), some (.getfield 143, 3), none, none, some (.aload_n 0, 1), some (.getfield 137, 3), none, none, some (.if_icmp .ge 16, 3), none, none, some (.aload_n 0, 1)],
  [some (.iconst 3, 1), some (.iload_n 1, 1), some (.imul, 1), some (.invokevirtual 291, 3), none, none, some (.iinc 1 1, 3), none, none, some (.goto (-28), 3), none, none, some (.aload_n 0, 1), some (.invokevirtual 179, 3), none, none],
  [some (.ifCond .ne 10, 3), none, none, some (.iconst (-1), 1), some (.aload_n 0, 1), some (.getfield 146, 3), none, none, some (.isub, 1), some (.ireturn, 1), some (.aload_n 0, 1), some (.getfield 9, 3), none, none, some (.aload_n 0, 1), some (.getfield 52, 3)],
  [none, none, some (.iconst 0, 1), some (.invokestatic 249, 3), none, none, some (.iconst 0, 1), some (.istore_n 2, 1), some (.iload_n 2, 1), some (.iload_n 1, 1), some (.if_icmp .ge 44, 3), none, none, some (.aload_n 0, 1), some (.aload_n 0, 1), some (.getfield 64, 3)],
  [none, none, some (.iconst 3, 1), some (.iload_n 2, 1), some (.imul, 1), some (.iaload, 1), some (.aload_n 0, 1), some (.getfield 64, 3), none, none, some (.iconst 3, 1), some (.iload_n 2, 1), some (.imul, 1), some (.iconst 1, 1), some (.iadd, 1), some (.iaload, 1)],
  [some (.aload_n 0, 1), some (.getfield 64, 3), none, none, some (.iconst 3, 1), some (.iload_n 2, 1), some (.imul, 1), some (.iconst 2, 1), some (.iadd, 1), some (.iaload, 1), some (.invokevirtual 294, 3), none, none, some (.ifCond .eq 9, 3), none, none],
  [some (.iinc 2 1, 3), none, none, some (.goto (-43), 3), none, none, some (.iload_n 2, 1), some (.ifCond .le 11, 3), none, none, some (.aload_n 0, 1), some (.aload_n 0, 1), some (.getfield 52, 3), none, none, some (.invokevirtual 253, 3)],
  [none, none, some (.aload_n 0, 1), some (.iconst 0, 1), some (.putfield 117, 3), none, none, some (.aload_n 0, 1), some (.iload_n 2, 1), some (.iload_n 1, 1), some (.if_icmp .ge 7, 3), none, none, some (.lconst 1, 1), some (.goto 4, 3), none],
  [none, some (.lconst 0, 1), some (.invokevirtual 284, 3), none, none, some (.aload_n 0, 1), some (.aload_n 0, 1), some (.getfield 9, 3), none, none, some (.bipush 25, 2), none, some (.iaload, 1), some (.i2l, 1), some (.invokevirtual 284, 3), none],
  [none, some (.iload_n 2, 1), some (.ireturn, 1)]]
set_option maxRecDepth 100000 in
theorem zDX8_year : zdrows cX8_year 0 zJX8_year = true := by decide +kernel
def zJX8_years : List (List (Option (Instr × Nat))) := [[some (.aload_n 0, 1), some (.iconst 0, 1), some (.putfield 114, 3), none, none, some (.iload_n 2, 1), some (.iconst 1, 1), some (.bipush 60, 2), none, some (.invokestatic 123, 3), none, none, some (.ifCond .ne 5, 3), none, none, some (.iconst (-1), 1)],
  [some (.ireturn, 1), some (.aload_n 0, 1), some (.iload_n 1, 1), some (.putfield 408, 3), none, none, some (.aload_n 0, 1), some (.getfield 9, 3), none, none, some (.aload_n 0, 1), some (.getfield 55, 3), none, none, some (.iconst 0, 1), some (.invokestatic 249, 3)],
  [none, none, some (.iconst 0, 1), some (.istore_n 3, 1), some (.iload_n 3, 1), some (.iload_n 2, 1), some (.if_icmp .ge 110, 3), none, none, some (.aload_n 0, 1), some (.iconst 4, 1), some (.invokevirtual 412, 3), none, none, some (.istore 4, 2), none],
  [some (.iload 4, 2), none, some (.iconst 2, 1), some (.if_icmp .ge 11, 3), none, none, some (.aload_n 0, 1), some (.aload_n 0, 1), some (.getfield 55, 3), none, none, some (.invokevirtual 277, 3), none, none, some (.iload 4, 2), none],
  [some (.iconst 2, 1), some (.if_icmp .lt 77, 3), none, none, some (.aload_n 0, 1), some (.getfield 120, 3), none, none, some (.ifCond .ne 6, 3), none, none, some (.goto 67, 3), none, none, some (.iload 4, 2), none],
  [some (.iconst 2, 1), some (.if_icmp .ne 38, 3), none, none, some (.aload_n 0, 1), some (.aload_n 0, 1), some (.getfield 120, 3), none, none, some (.invokevirtual 412, 3), none, none, some (.istore 5, 2), none, some (.aload_n 0, 1), some (.getfield 55, 3)],
  [none, none, some (.bipush 16, 2), none, some (.iload 5, 2), none, some (.iadd, 1), some (.iconst 1, 1), some (.aload_n 0, 1), some (.getfield 55, 3), none, none, some (.bipush 16, 2), none, some (.iload 5, 2), none],
  [some (.iadd, 1), some (.iaload, 1), some (.isub, 1), some (.iastore, 1), some (.goto 26, 3), none, none, some (.aload_n 0, 1), some (.bipush 8, 2), none, some (.invokevirtual 412, 3), none, none, some (.istore 5, 2), none, some (.aload_n 0, 1)],
  [some (.getfield 55, 3), none, none, some (.iload 5, 2), none, some (.aload_n 0, 1), some (.aload_n 0, 1), some (.getfield 120, 3), none, none, some (.invokevirtual 412, 3), none, none, some (.iastore, 1), some (.iinc 3 1, 3), none],
  [none, some (.goto (-109), 3), none, none, some (.aload_n 0, 1), some (.iconst 0, 1), some (.putfield 117, 3), none, none, some (.aload_n 0, 1), some (.aload_n 0, 1), some (.getfield 55, 3), none, none, some (.bipush 26, 2), none],
  [some (.iaload, 1), some (.aload_n 0, 1), some (.getfield 9, 3), none, none, some (.bipush 26, 2), none, some (.iaload, 1), some (.isub, 1), some (.i2l, 1), some (.invokevirtual 284, 3), none, none, some (.aload_n 0, 1), some (.aload_n 0, 1), some (.aload_n 0, 1)],
  [some (.getfield 55, 3), none, none, some (.invokevirtual 288, 3), none, none, some (.i2l, 1), some (.invokevirtual 284, 3), none, none, some (.aload_n 0, 1), some (.getfield 55, 3), none, none, some (.bipush 25, 2), none],
  [some (.iaload, 1), some (.aload_n 0, 1), some (.getfield 9, 3), none, none, some (.bipush 25, 2), none, some (.iaload, 1), some (.isub, 1), some (.ireturn, 1)]]
set_option maxRecDepth 100000 in
theorem zDX8_years : zdrows cX8_years 0 zJX8_years = true := by decide +kernel
