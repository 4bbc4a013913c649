def zJX8_hardOfRota : List (List (Option (Instr × Nat))) := [[some (.iconst 0, 1), some (.istore_n 1, 1), some (.iconst 0, 1), some (.istore_n 2, 1), some (.iload_n 2, 1), some (.aload_n 0, 1), some (.getfield 13, 3), none, none, some (.if_icmp .ge 41, 3), none, none, some (.iload_n 1, 1), some (.aload_n 0, 1), some (.getfield 9, 3), none],
  [none, some (.iload_n 2, 1), some (.iaload, 1), some (.iconst (-1), 1), some (.if_icmp .ne 7, 3), none, none, some (.iconst 0, 1), some (.goto 18, 3), none, none, some (.aload_n 0, 1), some (.aload_n 0, 1), some (.getfield 9, 3), none, none],
  [some (.aload_n 0, 1), some (.getfield 9, 3), none, none, some (.iload_n 2, 1), some (.iaload, 1), some (.iload_n 2, 1), some (.invokevirtual 245, 3), none, none, some (.iadd, 1), some (.istore_n 1, 1), some (.iinc 2 1, 3), none, none, some (.goto (-43), 3)],
  [none, none, some (.iload_n 1, 1), some (.ireturn, 1)]]
set_option maxRecDepth 100000 in
theorem zDX8_hardOfRota : zdrows cX8_hardOfRota 0 zJX8_hardOfRota = true := by decide +kernel
def zJX8_has : List (List (Option (Instr × Nat))) := [[some (.iload_n 0, 1), some (.iload_n 1, 1), some (.ishr, 1), some (.iconst 1, 1), some (.iand, 1), some (.iconst 1, 1), some (.if_icmp .ne 7, 3), none, none, some (.iconst 1, 1), some (.goto 4, 3), none, none, some (.iconst 0, 1), some (.ireturn, 1)]]
set_option maxRecDepth 100000 in
theorem zDX8_has : zdrows cX8_has 0 zJX8_has = true := by decide +kernel
def zJX8_held : List (List (Option (Instr × Nat))) := [[some (.aload_n 0, 1), some (.iconst 0, 1), some (.putfield 114, 3), none, none, some (.iload_n 1, 1), some (.iconst 0, 1), some (.bipush 10, 2), none, some (.invokestatic 123, 3), none, none, some (.ifCond .ne 5, 3), none, none, some (.iconst (-1), 1)],
  [some (.ireturn, 1), some (.aload_n 0, 1), some (.invokevirtual 347, 3), none, none, some (.aload_n 0, 1), some (.aload_n 0, 1), some (.aload_n 0, 1), some (.invokevirtual 386, 3), none, none, some (.iload_n 1, 1), some (.invokevirtual 389, 3), none, none, some (.ldc2_w 393, 3)],
  [none, none, some (.aload_n 0, 1), some (.invokevirtual 386, 3), none, none, some (.invokestatic 221, 3), none, none, some (.invokestatic 382, 3), none, none, some (.invokevirtual 378, 3), none, none, some (.iconst 0, 1)],
  [some (.ireturn, 1)]]
set_option maxRecDepth 100000 in
theorem zDX8_held : zdrows cX8_held 0 zJX8_held = true := by decide +kernel
def zJX8_heldBy : List (List (Option (Instr × Nat))) := [[some (.aload_n 0, 1), some (.iload_n 1, 1), some (.invokevirtual 188, 3), none, none, some (.istore_n 2, 1), some (.aload_n 0, 1), some (.bipush 60, 2), none, some (.invokevirtual 161, 3), none, none, some (.ifCond .eq 18, 3), none, none, some (.iload_n 2, 1)],
  [some (.aload_n 0, 1), some (.iload_n 1, 1), some (.invokevirtual 188, 3), none, none, some (.if_icmp .ge 7, 3), none, none, some (.iconst 1, 1), some (.goto 4, 3), none, none, some (.iconst 0, 1), some (.ireturn, 1), some (.aload_n 0, 1), some (.bipush 62, 2)],
  [none, some (.invokevirtual 161, 3), none, none, some (.ifCond .eq 18, 3), none, none, some (.iload_n 2, 1), some (.aload_n 0, 1), some (.iload_n 1, 1), some (.invokevirtual 188, 3), none, none, some (.if_icmp .le 7, 3), none, none],
  [some (.iconst 1, 1), some (.goto 4, 3), none, none, some (.iconst 0, 1), some (.ireturn, 1), some (.aload_n 0, 1), some (.bipush 61, 2), none, some (.invokevirtual 161, 3), none, none, some (.ifCond .eq 18, 3), none, none, some (.iload_n 2, 1)],
  [some (.aload_n 0, 1), some (.iload_n 1, 1), some (.invokevirtual 188, 3), none, none, some (.if_icmp .ne 7, 3), none, none, some (.iconst 1, 1), some (.goto 4, 3), none, none, some (.iconst 0, 1), some (.ireturn, 1), some (.iload_n 2, 1), some (.ireturn, 1)]]
set_option maxRecDepth 100000 in
theorem zDX8_heldBy : zdrows cX8_heldBy 0 zJX8_heldBy = true := by decide +kernel
def zJX8_heldParts : List (List (Option (Instr × Nat))) := [[some (.lconst 0, 1), some (.lstore_n 3, 1), some (.iload_n 1, 1), some (.invokestatic 221, 3), none, none, some (.istore 5, 2), none, some (.iconst 0, 1), some (.istore 6, 2), none, some (.iload 6, 2), none, some (.iload_n 1, 1), some (.if_icmp .gt 62, 3), none],
  [none, some (.iload 6, 2), none, some (.iload_n 1, 1), some (.iconst (-1), 1), some (.ixor, 1), some (.iand, 1), some (.ifCond .ne 47, 3), none, none, some (.aload_n 0, 1), some (.getfield 95, 3), none, none, some (.iload 6, 2), none],
  [some (.baload, 1), some (.ifCond .ne 6, 3), none, none, some (.goto 34, 3), none, none, some (.iload 6, 2), none, some (.invokestatic 221, 3), none, none, some (.istore 7, 2), none, some (.lload_n 3, 1), some (.bipush 10, 2)],
  [none, some (.iload_n 2, 1), some (.isub, 1), some (.i2l, 1), some (.iload 7, 2), none, some (.invokestatic 382, 3), none, none, some (.iload_n 2, 1), some (.i2l, 1), some (.iload 5, 2), none, some (.iload 7, 2), none, some (.isub, 1)],
  [some (.invokestatic 382, 3), none, none, some (.lmul, 1), some (.ladd, 1), some (.lstore_n 3, 1), some (.iinc 6 1, 3), none, none, some (.goto (-62), 3), none, none, some (.lload_n 3, 1), some (.lreturn, 1)]]
set_option maxRecDepth 100000 in
theorem zDX8_heldParts : zdrows cX8_heldParts 0 zJX8_heldParts = true := by decide +kernel
def zJX8_here : List (List (Option (Instr × Nat))) := [[some (.aload_n 0, 1), some (.getfield 143, 3), none, none, some (.aload_n 0, 1), some (.getfield 137, 3), none, none, some (.if_icmp .ge 30, 3), none, none, some (.aload_n 0, 1), some (.getfield 143, 3), none, none, some (.aload_n 0, 1)],
  [some (.getfield 140, 3), none, none, some (.if_icmp .ge 19, 3), none, none, some (.aload_n 0, 1), some (.getfield 134, 3), none, none, some (.aload_n 0, 1), some (.getfield 143, 3), none, none, some (.baload, 1), some (.sipush 255, 3)],
  [none, none, some (.iand, 1), some (.goto 4, 3), none, none, some (.iconst (-1), 1), some (.ireturn, 1)]]
set_option maxRecDepth 100000 in
theorem zDX8_here : zdrows cX8_here 0 zJX8_here = true := by decide +kernel
def zJX8_hoursOf : List (List (Option (Instr × Nat))) := [[some (.iconst 0, 1), some (.istore_n 3, 1), some (.iconst 0, 1), some (.istore 4, 2), none, some (.iload 4, 2), none, some (.bipush 8, 2), none, some (.if_icmp .ge 28, 3), none, none, some (.iload_n 3, 1), some (.aload_n 1, 1), some (.iload 4, 2), none],
  [some (.iaload, 1), some (.iload_n 2, 1), some (.if_icmp .ne 10, 3), none, none, some (.iconst 1, 1), some (.iload 4, 2), none, some (.ishl, 1), some (.goto 4, 3), none, none, some (.iconst 0, 1), some (.ior, 1), some (.istore_n 3, 1), some (.iinc 4 1, 3)],
  [none, none, some (.goto (-29), 3), none, none, some (.iload_n 3, 1), some (.ireturn, 1)]]
set_option maxRecDepth 100000 in
theorem zDX8_hoursOf : zdrows cX8_hoursOf 0 zJX8_hoursOf = true := by decide +kernel
def zJX8_ill : List (List (Option (Instr × Nat))) := [[some (.aload_n 0, 1), some (.iconst 0, 1), some (.putfield 114, 3), none, none, some (.aload_n 0, 1), some (.iload_n 1, 1), some (.invokevirtual 127, 3), none, none, some (.ifCond .ne 5, 3), none, none, some (.iconst (-1), 1), some (.ireturn, 1), some (.aload_n 0, 1)],
  [some (.aload_n 0, 1), some (.getfield 9, 3), none, none, some (.invokevirtual 253, 3), none, none, some (.aload_n 0, 1), some (.getfield 9, 3), none, none, some (.bipush 16, 2), none, some (.iload_n 1, 1), some (.iadd, 1), some (.iconst 1, 1)],
  [some (.aload_n 0, 1), some (.getfield 9, 3), none, none, some (.bipush 16, 2), none, some (.iload_n 1, 1), some (.iadd, 1), some (.iaload, 1), some (.isub, 1), some (.iastore, 1), some (.aload_n 0, 1), some (.aload_n 0, 1), some (.getfield 9, 3), none, none],
  [some (.invokevirtual 261, 3), none, none, some (.invokestatic 221, 3), none, none, some (.ireturn, 1)]]
set_option maxRecDepth 100000 in
theorem zDX8_ill : zdrows cX8_ill 0 zJX8_ill = true := by decide +kernel
def zJX8_illBits : List (List (Option (Instr × Nat))) := [[some (.iconst 0, 1), some (.istore_n 2, 1), some (.iconst 0, 1), some (.istore_n 3, 1), some (.iload_n 3, 1), some (.aload_n 0, 1), some (.getfield 120, 3), none, none, some (.if_icmp .ge 20, 3), none, none, some (.iload_n 2, 1), some (.aload_n 1, 1), some (.bipush 16, 2), none],
  [some (.iload_n 3, 1), some (.iadd, 1), some (.iaload, 1), some (.iload_n 3, 1), some (.ishl, 1), some (.ior, 1), some (.istore_n 2, 1), some (.iinc 3 1, 3), none, none, some (.goto (-22), 3), none, none, some (.iload_n 2, 1), some (.ireturn, 1)]]
set_option maxRecDepth 100000 in
theorem zDX8_illBits : zdrows cX8_illBits 0 zJX8_illBits = true := by decide +kernel
def zJX8_in : List (List (Option (Instr × Nat))) := [[some (.iload_n 0, 1), some (.iload_n 1, 1), some (.if_icmp .lt 12, 3), none, none, some (.iload_n 0, 1), some (.iload_n 2, 1), some (.if_icmp .gt 7, 3), none, none, some (.iconst 1, 1), some (.goto 4, 3), none, none, some (.iconst 0, 1), some (.ireturn, 1)]]
set_option maxRecDepth 100000 in
theorem zDX8_in : zdrows cX8_in 0 zJX8_in = true := by decide +kernel
def zJX8_init : List (List (Option (Instr × Nat))) := [[some (.aload_n 0, 1), some (.invokespecial 3, 3), none, none, some (.aload_n 0, 1), some (.bipush 27, 2), none, some (.newarray .int, 2), none, some (.putfield 9, 3), none, none, some (.aload_n 0, 1), some (.bipush 8, 2), none, some (.putfield 13, 3)],
  [none, none, some (.aload_n 0, 1), some (.iconst 4, 1), some (.putfield 17, 3), none, none, some (.aload_n 0, 1), some (.bipush 8, 2), none, some (.newarray .int, 2), none, some (.putfield 20, 3), none, none, some (.aload_n 0, 1)],
  [some (.bipush 8, 2), none, some (.newarray .int, 2), none, some (.putfield 23, 3), none, none, some (.aload_n 0, 1), some (.bipush 8, 2), none, some (.newarray .int, 2), none, some (.putfield 26, 3), none, none, some (.aload_n 0, 1)],
  [some (.bipush 80, 2), none, some (.newarray .byte, 2), none, some (.putfield 29, 3), none, none, some (.aload_n 0, 1), some (.bipush 16, 2), none, some (.newarray .long, 2), none, some (.putfield 33, 3), none, none, some (.aload_n 0, 1)],
  [some (.bipush 24, 2), none, some (.newarray .int, 2), none, some (.putfield 37, 3), none, none, some (.aload_n 0, 1), some (.bipush 40, 2), none, some (.newarray .byte, 2), none, some (.putfield 40, 3), none, none, some (.aload_n 0, 1)],
  [some (.bipush 40, 2), none, some (.newarray .byte, 2), none, some (.putfield 43, 3), none, none, some (.aload_n 0, 1), some (.bipush 7, 2), none, some (.newarray .int, 2), none, some (.putfield 46, 3), none, none, some (.aload_n 0, 1)],
  [some (.sipush 324, 3), none, none, some (.newarray .int, 2), none, some (.putfield 49, 3), none, none, some (.aload_n 0, 1), some (.bipush 27, 2), none, some (.newarray .int, 2), none, some (.putfield 52, 3), none, none],
  [some (.aload_n 0, 1), some (.bipush 27, 2), none, some (.newarray .int, 2), none, some (.putfield 55, 3), none, none, some (.aload_n 0, 1), some (.bipush 8, 2), none, some (.newarray .int, 2), none, some (.putfield 58, 3), none, none],
  [some (.aload_n 0, 1), some (.bipush 8, 2), none, some (.newarray .int, 2), none, some (.putfield 61, 3), none, none, some (.aload_n 0, 1), some (.sipush 240, 3), none, none, some (.newarray .int, 2), none, some (.putfield 64, 3), none],
  [none, some (.aload_n 0, 1), some (.bipush 8, 2), none, some (.newarray .int, 2), none, some (.putfield 67, 3), none, none, some (.aload_n 0, 1), some (.bipush 8, 2), none, some (.newarray .int, 2), none, some (.putfield 70, 3), none],
  [none, some (.aload_n 0, 1), some (.bipush 8, 2), none, some (.newarray .int, 2), none, some (.putfield 73, 3), none, none, some (.aload_n 0, 1), some (.bipush 8, 2), none, some (.newarray .int, 2), none, some (.putfield 76, 3), none],
  [none, some (.aload_n 0, 1), some (.bipush 64, 2), none, some (.newarray .int, 2), none, some (.putfield 79, 3), none, none, some (.aload_n 0, 1), some (.sipush 2304, 3), none, none, some (.newarray .int, 2), none, some (.putfield 82, 3)],
  [none, none, some (.aload_n 0, 1), some (.sipush 2304, 3), none, none, some (.newarray .int, 2), none, some (.putfield 85, 3), none, none, some (.aload_n 0, 1), some (.ldc 88, 2), none, some (.putfield 89, 3), none],
  [none, some (.aload_n 0, 1), some (.bipush 8, 2), none, some (.newarray .int, 2), none, some (.putfield 92, 3), none, none, some (.aload_n 0, 1), some (.sipush 256, 3), none, none, some (.newarray .boolean, 2), none, some (.putfield 95, 3)],
  [none, none, some (.aload_n 0, 1), some (.bipush 12, 2), none, some (.newarray .int, 2), none, some (.putfield 99, 3), none, none, some (.aload_n 0, 1), some (.bipush 12, 2), none, some (.newarray .int, 2), none, some (.putfield 102, 3)],
  [none, none, some (.aload_n 0, 1), some (.bipush 54, 2), none, some (.newarray .int, 2), none, some (.putfield 105, 3), none, none, some (.aload_n 0, 1), some (.iconst 2, 1), some (.newarray .boolean, 2), none, some (.putfield 108, 3), none],
  [none, some (.aload_n 0, 1), some (.iconst 2, 1), some (.newarray .int, 2), none, some (.putfield 111, 3), none, none, some (.iconst 0, 1), some (.istore_n 1, 1), some (.iload_n 1, 1), some (.bipush 8, 2), none, some (.if_icmp .ge 16, 3), none, none],
  [some (.aload_n 0, 1), some (.getfield 9, 3), none, none, some (.iload_n 1, 1), some (.iconst (-1), 1), some (.iastore, 1), some (.iinc 1 1, 3), none, none, some (.goto (-16), 3), none, none, some (.return_, 1)]]
set_option maxRecDepth 100000 in
theorem zDX8_init : zdrows cX8_init 0 zJX8_init = true := by decide +kernel
def zJX8_isGift : List (List (Option (Instr × Nat))) := [[some (.iload_n 1, 1), some (.invokestatic 242, 3), none, none, some (.ifCond .eq 20, 3), none, none, some (.iload_n 2, 1), some (.iconst (-1), 1), some (.if_icmp .eq 11, 3), none, none, some (.aload_n 0, 1), some (.iload_n 2, 1), some (.invokevirtual 127, 3), none],
  [none, some (.ifCond .eq 7, 3), none, none, some (.iconst 1, 1), some (.goto 4, 3), none, none, some (.iconst 0, 1), some (.ireturn, 1)]]
set_option maxRecDepth 100000 in
theorem zDX8_isGift : zdrows cX8_isGift 0 zJX8_isGift = true := by decide +kernel
def zJX8_isHour : List (List (Option (Instr × Nat))) := [[some (.iload_n 0, 1), some (.iconst 0, 1), some (.bipush 7, 2), none, some (.invokestatic 123, 3), none, none, some (.ireturn, 1)]]
set_option maxRecDepth 100000 in
theorem zDX8_isHour : zdrows cX8_isHour 0 zJX8_isHour = true := by decide +kernel
def zJX8_isMan : List (List (Option (Instr × Nat))) := [[some (.iload_n 1, 1), some (.iconst 0, 1), some (.aload_n 0, 1), some (.getfield 120, 3), none, none, some (.iconst 1, 1), some (.isub, 1), some (.invokestatic 123, 3), none, none, some (.ireturn, 1)]]
set_option maxRecDepth 100000 in
theorem zDX8_isMan : zdrows cX8_isMan 0 zJX8_isMan = true := by decide +kernel
def zJX8_isRest : List (List (Option (Instr × Nat))) := [[some (.iconst 0, 1), some (.istore 4, 2), none, some (.iload 4, 2), none, some (.bipush 9, 2), none, some (.if_icmp .gt 43, 3), none, none, some (.iload 4, 2), none, some (.iload_n 1, 1), some (.iload_n 2, 1), some (.invokestatic 395, 3), none],
  [none, some (.iload_n 0, 1), some (.iload_n 1, 1), some (.iload_n 2, 1), some (.invokestatic 395, 3), none, none, some (.if_icmp .gt 19, 3), none, none, some (.iload_n 0, 1), some (.iload 4, 2), none, some (.iload_n 3, 1), some (.invokestatic 398, 3), none],
  [none, some (.iload_n 0, 1), some (.iload_n 1, 1), some (.iload_n 3, 1), some (.invokestatic 398, 3), none, none, some (.if_icmp .le 5, 3), none, none, some (.iconst 0, 1), some (.ireturn, 1), some (.iinc 4 1, 3), none, none, some (.goto (-44), 3)],
  [none, none, some (.iconst 1, 1), some (.ireturn, 1)]]
set_option maxRecDepth 100000 in
theorem zDX8_isRest : zdrows cX8_isRest 0 zJX8_isRest = true := by decide +kernel
def zJX8_keep : List (List (Option (Instr × Nat))) := [[some (.aload_n 0, 1), some (.iconst 0, 1), some (.putfield 114, 3), none, none, some (.iload_n 1, 1), some (.iconst 0, 1), some (.iconst 1, 1), some (.invokestatic 123, 3), none, none, some (.ifCond .ne 5, 3), none, none, some (.iconst 0, 1), some (.ireturn, 1)],
  [some (.aload_n 0, 1), some (.getfield 108, 3), none, none, some (.iload_n 1, 1), some (.iconst 1, 1), some (.bastore, 1), some (.aload_n 0, 1), some (.getfield 111, 3), none, none, some (.iload_n 1, 1), some (.aload_n 0, 1), some (.getfield 185, 3), none, none],
  [some (.iastore, 1), some (.aload_n 0, 1), some (.getfield 9, 3), none, none, some (.aload_n 0, 1), some (.getfield 105, 3), none, none, some (.bipush 27, 2), none, some (.iload_n 1, 1), some (.imul, 1), some (.invokestatic 249, 3), none, none],
  [some (.iconst 1, 1), some (.ireturn, 1)]]
set_option maxRecDepth 100000 in
theorem zDX8_keep : zdrows cX8_keep 0 zJX8_keep = true := by decide +kernel
def zJX8_keepMay : List (List (Option (Instr × Nat))) := [[some (.iconst 0, 1), some (.istore_n 1, 1), some (.iload_n 1, 1), some (.bipush 8, 2), none, some (.if_icmp .ge 33, 3), none, none, some (.aload_n 0, 1), some (.getfield 73, 3), none, none, some (.iload_n 1, 1), some (.aload_n 0, 1), some (.getfield 67, 3), none],
  [none, some (.iload_n 1, 1), some (.iaload, 1), some (.iastore, 1), some (.aload_n 0, 1), some (.getfield 76, 3), none, none, some (.iload_n 1, 1), some (.aload_n 0, 1), some (.getfield 70, 3), none, none, some (.iload_n 1, 1), some (.iaload, 1), some (.iastore, 1)],
  [some (.iinc 1 1, 3), none, none, some (.goto (-33), 3), none, none, some (.return_, 1)]]
set_option maxRecDepth 100000 in
theorem zDX8_keepMay : zdrows cX8_keepMay 0 zJX8_keepMay = true := by decide +kernel
def zJX8_keystone : List (List (Option (Instr × Nat))) := [[some (.aload_n 0, 1), some (.iconst 0, 1), some (.putfield 114, 3), none, none, some (.iload_n 1, 1), some (.iconst 0, 1), some (.bipush 10, 2), none, some (.invokestatic 123, 3), none, none, some (.ifCond .ne 5, 3), none, none, some (.iconst (-1), 1)],
  [some (.ireturn, 1), some (.aload_n 0, 1), some (.invokevirtual 386, 3), none, none, some (.istore_n 2, 1), some (.iload_n 2, 1), some (.ifCond .ne 6, 3), none, none, some (.bipush (-2), 2), none, some (.ireturn, 1), some (.aload_n 0, 1), some (.invokevirtual 347, 3), none],
  [none, some (.iconst (-1), 1), some (.istore_n 3, 1), some (.lconst 0, 1), some (.lstore 4, 2), none, some (.iconst 0, 1), some (.istore 6, 2), none, some (.iload 6, 2), none, some (.aload_n 0, 1), some (.getfield 120, 3), none, none, some (.if_icmp .ge 59, 3)],
  [none, none, some (.iload_n 2, 1), some (.iload 6, 2), none, some (.invokestatic 271, 3), none, none, some (.ifCond .ne 6, 3), none, none, some (.goto 41, 3), none, none, some (.aload_n 0, 1), some (.iload_n 2, 1)],
  [some (.iconst 1, 1), some (.iload 6, 2), none, some (.ishl, 1), some (.iconst (-1), 1), some (.ixor, 1), some (.iand, 1), some (.iload_n 1, 1), some (.invokevirtual 389, 3), none, none, some (.lstore 7, 2), none, some (.iload_n 3, 1), some (.iconst (-1), 1), some (.if_icmp .eq 14, 3)],
  [none, none, some (.lload 7, 2), none, some (.lload 4, 2), none, some (.lcmp, 1), some (.ifCond .lt 6, 3), none, none, some (.goto 10, 3), none, none, some (.iload 6, 2), none, some (.istore_n 3, 1)],
  [some (.lload 7, 2), none, some (.lstore 4, 2), none, some (.iinc 6 1, 3), none, none, some (.goto (-62), 3), none, none, some (.aload_n 0, 1), some (.lload 4, 2), none, some (.ldc2_w 393, 3), none, none],
  [some (.iload_n 2, 1), some (.invokestatic 221, 3), none, none, some (.iconst 1, 1), some (.isub, 1), some (.invokestatic 382, 3), none, none, some (.invokevirtual 378, 3), none, none, some (.iload_n 3, 1), some (.ireturn, 1)]]
set_option maxRecDepth 100000 in
theorem zDX8_keystone : zdrows cX8_keystone 0 zJX8_keystone = true := by decide +kernel
def zJX8_later : List (List (Option (Instr × Nat))) := [[some (.aload_n 0, 1), some (.iconst 0, 1), some (.putfield 114, 3), none, none, some (.iload_n 1, 1), some (.iconst 0, 1), some (.bipush 60, 2), none, some (.invokestatic 123, 3), none, none, some (.ifCond .ne 5, 3), none, none, some (.iconst (-1), 1)],
  [some (.ireturn, 1), some (.aload_n 0, 1), some (.getfield 9, 3), none, none, some (.aload_n 0, 1), some (.getfield 55, 3), none, none, some (.iconst 0, 1), some (.invokestatic 249, 3), none, none, some (.aload_n 0, 1), some (.aload_n 0, 1), some (.getfield 55, 3)],
  [none, none, some (.iload_n 1, 1), some (.invokevirtual 280, 3), none, none, some (.iconst 0, 1), some (.istore_n 2, 1), some (.iconst 0, 1), some (.istore_n 3, 1), some (.iload_n 3, 1), some (.aload_n 0, 1), some (.getfield 120, 3), none, none, some (.if_icmp .ge 23, 3)],
  [none, none, some (.iload_n 2, 1), some (.aload_n 0, 1), some (.getfield 55, 3), none, none, some (.bipush 8, 2), none, some (.iload_n 3, 1), some (.iadd, 1), some (.iaload, 1), some (.invokestatic 232, 3), none, none, some (.istore_n 2, 1)],
  [some (.iinc 3 1, 3), none, none, some (.goto (-25), 3), none, none, some (.aload_n 0, 1), some (.iconst 0, 1), some (.putfield 117, 3), none, none, some (.aload_n 0, 1), some (.aload_n 0, 1), some (.aload_n 0, 1), some (.getfield 55, 3), none],
  [none, some (.invokevirtual 288, 3), none, none, some (.i2l, 1), some (.invokevirtual 284, 3), none, none, some (.aload_n 0, 1), some (.iload_n 2, 1), some (.i2l, 1), some (.invokevirtual 284, 3), none, none, some (.aload_n 0, 1), some (.getfield 55, 3)],
  [none, none, some (.bipush 25, 2), none, some (.iaload, 1), some (.aload_n 0, 1), some (.getfield 9, 3), none, none, some (.bipush 25, 2), none, some (.iaload, 1), some (.isub, 1), some (.ireturn, 1)]]
set_option maxRecDepth 100000 in
theorem zDX8_later : zdrows cX8_later 0 zJX8_later = true := by decide +kernel
def zJX8_law : List (List (Option (Instr × Nat))) := [[some (.aload_n 0, 1), some (.iconst 0, 1), some (.putfield 114, 3), none, none, some (.aload_n 0, 1), some (.getfield 131, 3), none, none, some (.istore_n 1, 1), some (.aload_n 0, 1), some (.invokevirtual 215, 3), none, none, some (.ifCond .ne 12, 3), none],
  [none, some (.sipush (-10000), 3), none, none, some (.aload_n 0, 1), some (.getfield 146, 3), none, none, some (.isub, 1), some (.ireturn, 1), some (.aload_n 0, 1), some (.invokevirtual 405, 3), none, none, some (.istore_n 2, 1), some (.aload_n 0, 1)],
  [some (.getfield 40, 3), none, none, some (.astore_n 3, 1), some (.aload_n 0, 1), some (.getfield 218, 3), none, none, some (.istore 4, 2), none, some (.aload_n 0, 1), some (.aload_n 0, 1), some (.getfield 43, 3), none, none, some (.putfield 40, 3)],
  [none, none, some (.aload_n 0, 1), some (.iload_n 1, 1), some (.putfield 218, 3), none, none, some (.iconst 0, 1), some (.istore 5, 2), none, some (.iload 5, 2), none, some (.iload_n 1, 1), some (.if_icmp .ge 23, 3), none, none],
  [some (.aload_n 0, 1), some (.getfield 40, 3), none, none, some (.iload 5, 2), none, some (.aload_n 0, 1), some (.getfield 29, 3), none, none, some (.iload 5, 2), none, some (.baload, 1), some (.bastore, 1), some (.iinc 5 1, 3), none],
  [none, some (.goto (-23), 3), none, none, some (.aload_n 0, 1), some (.invokevirtual 405, 3), none, none, some (.istore 5, 2), none, some (.aload_n 0, 1), some (.aload_n 3, 1), some (.putfield 40, 3), none, none, some (.aload_n 0, 1)],
  [some (.iload 4, 2), none, some (.putfield 218, 3), none, none, some (.aload_n 0, 1), some (.iconst 0, 1), some (.putfield 117, 3), none, none, some (.aload_n 0, 1), some (.iload 5, 2), none, some (.i2l, 1), some (.invokevirtual 284, 3), none],
  [none, some (.aload_n 0, 1), some (.iload_n 2, 1), some (.i2l, 1), some (.invokevirtual 284, 3), none, none, some (.iload 5, 2), none, some (.iload_n 2, 1), some (.isub, 1), some (.ireturn, 1)]]
set_option maxRecDepth 100000 in
theorem zDX8_law : zdrows cX8_law 0 zJX8_law = true := by decide +kernel
def zJX8_lay : List (List (Option (Instr × Nat))) := [[some (.iconst 0, 1), some (.istore_n 3, 1), some (.iload_n 3, 1), some (.bipush 27, 2), none, some (.if_icmp .ge 17, 3), none, none, some (.aload_n 1, 1), some (.iload_n 2, 1), some (.iload_n 3, 1), some (.iadd, 1), some (.aload_n 0, 1), some (.iload_n 3, 1), some (.iaload, 1), some (.iastore, 1)],
  [some (.iinc 3 1, 3), none, none, some (.goto (-17), 3), none, none, some (.return_, 1)]]
set_option maxRecDepth 100000 in
theorem zDX8_lay : zdrows cX8_lay 0 zJX8_lay = true := by decide +kernel
def zJX8_layCanBe : List (List (Option (Instr × Nat))) := [[some (.iconst 0, 1), some (.istore_n 1, 1), some (.iload_n 1, 1), some (.iconst 1, 1), some (.aload_n 0, 1), some (.getfield 120, 3), none, none, some (.ishl, 1), some (.if_icmp .ge 75, 3), none, none, some (.aload_n 0, 1), some (.iconst (-1), 1), some (.invokevirtual 335, 3), none],
  [none, some (.iconst 0, 1), some (.istore_n 2, 1), some (.iload_n 2, 1), some (.aload_n 0, 1), some (.getfield 120, 3), none, none, some (.if_icmp .ge 33, 3), none, none, some (.aload_n 0, 1), some (.getfield 67, 3), none, none, some (.iload_n 2, 1)],
  [some (.iload_n 1, 1), some (.iload_n 2, 1), some (.invokestatic 271, 3), none, none, some (.ifCond .eq 12, 3), none, none, some (.aload_n 0, 1), some (.getfield 67, 3), none, none, some (.iload_n 2, 1), some (.iaload, 1), some (.goto 4, 3), none],
  [none, some (.iconst 0, 1), some (.iastore, 1), some (.iinc 2 1, 3), none, none, some (.goto (-35), 3), none, none, some (.aload_n 0, 1), some (.getfield 95, 3), none, none, some (.iload_n 1, 1), some (.aload_n 0, 1), some (.iconst 2, 1)],
  [some (.invokevirtual 329, 3), none, none, some (.ldc 88, 2), none, some (.if_icmp .ge 7, 3), none, none, some (.iconst 1, 1), some (.goto 4, 3), none, none, some (.iconst 0, 1), some (.bastore, 1), some (.iinc 1 1, 3), none],
  [none, some (.goto (-79), 3), none, none, some (.return_, 1)]]
set_option maxRecDepth 100000 in
theorem zDX8_layCanBe : zdrows cX8_layCanBe 0 zJX8_layCanBe = true := by decide +kernel
def zJX8_layFound : List (List (Option (Instr × Nat))) := [[some (.aload_n 0, 1), some (.iconst (-1), 1), some (.invokevirtual 335, 3), none, none, some (.iconst 0, 1), some (.istore_n 1, 1), some (.iload_n 1, 1), some (.aload_n 0, 1), some (.getfield 362, 3), none, none, some (.if_icmp .ge 79, 3), none, none, some (.aload_n 0, 1)],
  [some (.getfield 99, 3), none, none, some (.iload_n 1, 1), some (.iaload, 1), some (.aload_n 0, 1), some (.getfield 13, 3), none, none, some (.if_icmp .lt 6, 3), none, none, some (.goto 57, 3), none, none, some (.aload_n 0, 1)],
  [some (.getfield 365, 3), none, none, some (.iload_n 1, 1), some (.invokestatic 271, 3), none, none, some (.ifCond .eq 22, 3), none, none, some (.aload_n 0, 1), some (.aload_n 0, 1), some (.getfield 99, 3), none, none, some (.iload_n 1, 1)],
  [some (.iaload, 1), some (.aload_n 0, 1), some (.getfield 102, 3), none, none, some (.iload_n 1, 1), some (.iaload, 1), some (.invokevirtual 323, 3), none, none, some (.goto 27, 3), none, none, some (.aload_n 0, 1), some (.getfield 67, 3), none],
  [none, some (.aload_n 0, 1), some (.getfield 102, 3), none, none, some (.iload_n 1, 1), some (.iaload, 1), some (.dup2, 1), some (.iaload, 1), some (.iconst 1, 1), some (.aload_n 0, 1), some (.getfield 99, 3), none, none, some (.iload_n 1, 1), some (.iaload, 1)],
  [some (.ishl, 1), some (.iconst (-1), 1), some (.ixor, 1), some (.iand, 1), some (.iastore, 1), some (.iinc 1 1, 3), none, none, some (.goto (-81), 3), none, none, some (.return_, 1)]]
set_option maxRecDepth 100000 in
theorem zDX8_layFound : zdrows cX8_layFound 0 zJX8_layFound = true := by decide +kernel
def zJX8_layLine : List (List (Option (Instr × Nat))) := [[some (.iconst 0, 1), some (.istore_n 3, 1), some (.iload_n 3, 1), some (.aload_n 0, 1), some (.getfield 13, 3), none, none, some (.if_icmp .ge 108, 3), none, none, some (.iconst 0, 1), some (.istore 4, 2), none, some (.iconst 0, 1), some (.istore 5, 2), none],
  [some (.iload 5, 2), none, some (.aload_n 0, 1), some (.getfield 120, 3), none, none, some (.if_icmp .ge 87, 3), none, none, some (.iload 4, 2), none, some (.ifCond .ne 82, 3), none, none, some (.aload_n 0, 1), some (.getfield 67, 3)],
  [none, none, some (.iload 5, 2), none, some (.iaload, 1), some (.iload_n 3, 1), some (.invokestatic 271, 3), none, none, some (.ifCond .ne 6, 3), none, none, some (.goto 59, 3), none, none, some (.aload_n 0, 1)],
  [some (.invokevirtual 320, 3), none, none, some (.aload_n 0, 1), some (.iload_n 3, 1), some (.iload 5, 2), none, some (.invokevirtual 323, 3), none, none, some (.aload_n 0, 1), some (.iload 5, 2), none, some (.invokevirtual 326, 3), none, none],
  [some (.ifCond .eq 16, 3), none, none, some (.aload_n 0, 1), some (.iload_n 1, 1), some (.invokevirtual 329, 3), none, none, some (.iload_n 2, 1), some (.if_icmp .ne 7, 3), none, none, some (.iconst 1, 1), some (.goto 4, 3), none, none],
  [some (.iconst 0, 1), some (.istore 4, 2), none, some (.iload 4, 2), none, some (.ifCond .eq 14, 3), none, none, some (.aload_n 0, 1), some (.getfield 92, 3), none, none, some (.iload_n 3, 1), some (.iload 5, 2), none, some (.iastore, 1)],
  [some (.goto 7, 3), none, none, some (.aload_n 0, 1), some (.invokevirtual 332, 3), none, none, some (.iinc 5 1, 3), none, none, some (.goto (-90), 3), none, none, some (.iinc 3 1, 3), none, none],
  [some (.goto (-110), 3), none, none, some (.return_, 1)]]
set_option maxRecDepth 100000 in
theorem zDX8_layLine : zdrows cX8_layLine 0 zJX8_layLine = true := by decide +kernel
def zJX8_layMay : List (List (Option (Instr × Nat))) := [[some (.iconst 0, 1), some (.istore_n 2, 1), some (.iload_n 2, 1), some (.aload_n 0, 1), some (.getfield 120, 3), none, none, some (.if_icmp .ge 90, 3), none, none, some (.aload_n 0, 1), some (.getfield 67, 3), none, none, some (.iload_n 2, 1), some (.aload_n 0, 1)],
  [some (.getfield 9, 3), none, none, some (.bipush 16, 2), none, some (.iload_n 2, 1), some (.iadd, 1), some (.iaload, 1), some (.iconst 1, 1), some (.if_icmp .eq 8, 3), none, none, some (.iload_n 2, 1), some (.iload_n 1, 1), some (.if_icmp .ne 7, 3), none],
  [none, some (.iconst 0, 1), some (.goto 14, 3), none, none, some (.aload_n 0, 1), some (.getfield 26, 3), none, none, some (.iload_n 2, 1), some (.iaload, 1), some (.aload_n 0, 1), some (.invokevirtual 307, 3), none, none, some (.iand, 1)],
  [some (.iastore, 1), some (.aload_n 0, 1), some (.getfield 70, 3), none, none, some (.iload_n 2, 1), some (.iconst 0, 1), some (.iastore, 1), some (.iconst 0, 1), some (.istore_n 3, 1), some (.iload_n 3, 1), some (.bipush 8, 2), none, some (.if_icmp .ge 30, 3), none, none],
  [some (.aload_n 0, 1), some (.getfield 79, 3), none, none, some (.bipush 8, 2), none, some (.iload_n 2, 1), some (.imul, 1), some (.iload_n 3, 1), some (.iadd, 1), some (.aload_n 0, 1), some (.aload_n 0, 1), some (.getfield 9, 3), none, none, some (.iload_n 2, 1)],
  [some (.iload_n 3, 1), some (.invokevirtual 245, 3), none, none, some (.iastore, 1), some (.iinc 3 1, 3), none, none, some (.goto (-30), 3), none, none, some (.iinc 2 1, 3), none, none, some (.goto (-92), 3), none],
  [none, some (.return_, 1)]]
set_option maxRecDepth 100000 in
theorem zDX8_layMay : zdrows cX8_layMay 0 zJX8_layMay = true := by decide +kernel
def zJX8_letterOf : List (List (Option (Instr × Nat))) := [[some (.iload_n 0, 1), some (.bipush 104, 2), none, some (.if_icmp .ne 7, 3), none, none, some (.iconst 0, 1), some (.goto 65, 3), none, none, some (.iload_n 0, 1), some (.bipush 116, 2), none, some (.if_icmp .ne 7, 3), none, none],
  [some (.iconst 1, 1), some (.goto 55, 3), none, none, some (.iload_n 0, 1), some (.bipush 119, 2), none, some (.if_icmp .ne 7, 3), none, none, some (.iconst 2, 1), some (.goto 45, 3), none, none, some (.iload_n 0, 1), some (.bipush 109, 2)],
  [none, some (.if_icmp .ne 7, 3), none, none, some (.iconst 3, 1), some (.goto 35, 3), none, none, some (.iload_n 0, 1), some (.bipush 105, 2), none, some (.if_icmp .ne 7, 3), none, none, some (.iconst 4, 1), some (.goto 25, 3)],
  [none, none, some (.iload_n 0, 1), some (.bipush 110, 2), none, some (.if_icmp .ne 7, 3), none, none, some (.iconst 5, 1), some (.goto 15, 3), none, none, some (.iload_n 0, 1), some (.bipush 99, 2), none, some (.if_icmp .ne 8, 3)],
  [none, none, some (.bipush 6, 2), none, some (.goto 4, 3), none, none, some (.iconst (-1), 1), some (.ireturn, 1)]]
set_option maxRecDepth 100000 in
theorem zDX8_letterOf : zdrows cX8_letterOf 0 zJX8_letterOf = true := by decide +kernel
def zJX8_lost : List (List (Option (Instr × Nat))) := [[some (.aload_n 0, 1), some (.iconst 1, 1), some (.putfield 114, 3), none, none, some (.iconst 0, 1), some (.ireturn, 1)]]
set_option maxRecDepth 100000 in
theorem zDX8_lost : zdrows cX8_lost 0 zJX8_lost = true := by decide +kernel
def zJX8_meets : List (List (Option (Instr × Nat))) := [[some (.aload_n 0, 1), some (.iconst 0, 1), some (.putfield 114, 3), none, none, some (.aload_n 0, 1), some (.iload_n 1, 1), some (.iload_n 2, 1), some (.invokevirtual 297, 3), none, none, some (.ifCond .eq 13, 3), none, none, some (.iload_n 3, 1), some (.iconst 2, 1)],
  [some (.bipush 40, 2), none, some (.invokestatic 123, 3), none, none, some (.ifCond .ne 5, 3), none, none, some (.iconst (-1), 1), some (.ireturn, 1), some (.bipush (-2), 2), none, some (.istore 4, 2), none, some (.iconst 0, 1), some (.istore 5, 2)],
  [none, some (.iconst 1, 1), some (.istore 6, 2), none, some (.iload 6, 2), none, some (.sipush 999, 3), none, none, some (.if_icmp .gt 58, 3), none, none, some (.aload_n 0, 1), some (.getfield 23, 3), none, none],
  [some (.iload_n 1, 1), some (.iaload, 1), some (.iload 6, 2), none, some (.imul, 1), some (.iload_n 1, 1), some (.iadd, 1), some (.iload_n 3, 1), some (.irem, 1), some (.aload_n 0, 1), some (.getfield 23, 3), none, none, some (.iload_n 2, 1), some (.iaload, 1), some (.iload 6, 2)],
  [none, some (.imul, 1), some (.iload_n 2, 1), some (.iadd, 1), some (.iload_n 3, 1), some (.irem, 1), some (.if_icmp .eq 6, 3), none, none, some (.goto 20, 3), none, none, some (.iload 5, 2), none, some (.ifCond .ne 8, 3), none],
  [none, some (.iload 6, 2), none, some (.goto 5, 3), none, none, some (.iload 4, 2), none, some (.istore 4, 2), none, some (.iinc 5 1, 3), none, none, some (.iinc 6 1, 3), none, none],
  [some (.goto (-60), 3), none, none, some (.iload 5, 2), none, some (.ifCond .ne 6, 3), none, none, some (.bipush (-2), 2), none, some (.ireturn, 1), some (.aload_n 0, 1), some (.iconst 0, 1), some (.putfield 117, 3), none, none],
  [some (.aload_n 0, 1), some (.aload_n 0, 1), some (.getfield 23, 3), none, none, some (.iload_n 1, 1), some (.iaload, 1), some (.iload 4, 2), none, some (.imul, 1), some (.iload_n 1, 1), some (.iadd, 1), some (.iload_n 3, 1), some (.irem, 1), some (.i2l, 1), some (.invokevirtual 284, 3)],
  [none, none, some (.aload_n 0, 1), some (.iload 5, 2), none, some (.i2l, 1), some (.invokevirtual 284, 3), none, none, some (.iload 4, 2), none, some (.ireturn, 1)]]
set_option maxRecDepth 100000 in
theorem zDX8_meets : zdrows cX8_meets 0 zJX8_meets = true := by decide +kernel
def zJX8_mended : List (List (Option (Instr × Nat))) := [[some (.aload_n 0, 1), some (.iconst 0, 1), some (.putfield 114, 3), none, none, some (.aload_n 0, 1), some (.iload_n 1, 1), some (.invokevirtual 127, 3), none, none, some (.ifCond .ne 5, 3), none, none, some (.iconst (-1), 1), some (.ireturn, 1), some (.aload_n 0, 1)],
  [some (.iload_n 1, 1), some (.invokevirtual 335, 3), none, none, some (.aload_n 0, 1), some (.iconst 1, 1), some (.invokevirtual 329, 3), none, none, some (.istore_n 2, 1), some (.iload_n 2, 1), some (.ldc 88, 2), none, some (.if_icmp .ne 6, 3), none, none],
  [some (.bipush (-2), 2), none, some (.ireturn, 1), some (.aload_n 0, 1), some (.iconst 1, 1), some (.iload_n 2, 1), some (.invokevirtual 341, 3), none, none, some (.aload_n 0, 1), some (.invokevirtual 344, 3), none, none, some (.iload_n 2, 1), some (.ireturn, 1)]]
set_option maxRecDepth 100000 in
theorem zDX8_mended : zdrows cX8_mended 0 zJX8_mended = true := by decide +kernel
def zJX8_missed : List (List (Option (Instr × Nat))) := [[some (.aload_n 0, 1), some (.iconst 0, 1), some (.putfield 114, 3), none, none, some (.aload_n 0, 1), some (.iload_n 1, 1), some (.invokevirtual 127, 3), none, none, some (.ifCond .ne 5, 3), none, none, some (.iconst (-1), 1), some (.ireturn, 1), some (.aload_n 0, 1)],
  [some (.iconst (-1), 1), some (.invokevirtual 338, 3), none, none, some (.istore_n 2, 1), some (.aload_n 0, 1), some (.iload_n 1, 1), some (.invokevirtual 338, 3), none, none, some (.istore_n 3, 1), some (.iload_n 2, 1), some (.ldc 88, 2), none, some (.if_icmp .eq 9, 3), none],
  [none, some (.iload_n 3, 1), some (.ldc 88, 2), none, some (.if_icmp .ne 8, 3), none, none, some (.bipush (-2), 2), none, some (.goto 6, 3), none, none, some (.iload_n 3, 1), some (.iload_n 2, 1), some (.isub, 1), some (.ireturn, 1)]]
set_option maxRecDepth 100000 in
theorem zDX8_missed : zdrows cX8_missed 0 zJX8_missed = true := by decide +kernel
def zJX8_need : List (List (Option (Instr × Nat))) := [[some (.aload_n 0, 1), some (.iload_n 1, 1), some (.invokevirtual 161, 3), none, none, some (.ifCond .ne 11, 3), none, none, some (.aload_n 0, 1), some (.aload_n 0, 1), some (.getfield 143, 3), none, none, some (.invokevirtual 165, 3), none, none],
  [some (.return_, 1)]]
set_option maxRecDepth 100000 in
theorem zDX8_need : zdrows cX8_need 0 zJX8_need = true := by decide +kernel
def zJX8_night : List (List (Option (Instr × Nat))) := [[some (.iconst 1, 1), some (.aload_n 0, 1), some (.getfield 13, 3), none, none, some (.ishl, 1), some (.iconst 1, 1), some (.isub, 1), some (.ireturn, 1)]]
set_option maxRecDepth 100000 in
theorem zDX8_night : zdrows cX8_night 0 zJX8_night = true := by decide +kernel
def zJX8_nights : List (List (Option (Instr × Nat))) := [[some (.aload_n 0, 1), some (.iconst 0, 1), some (.putfield 114, 3), none, none, some (.iload_n 1, 1), some (.iconst 0, 1), some (.bipush 30, 2), none, some (.invokestatic 123, 3), none, none, some (.ifCond .ne 5, 3), none, none, some (.iconst (-1), 1)],
  [some (.ireturn, 1), some (.iload_n 1, 1), some (.ifCond .le 11, 3), none, none, some (.aload_n 0, 1), some (.aload_n 0, 1), some (.getfield 9, 3), none, none, some (.invokevirtual 253, 3), none, none, some (.aload_n 0, 1), some (.getfield 9, 3), none],
  [none, some (.bipush 25, 2), none, some (.iaload, 1), some (.istore_n 2, 1), some (.aload_n 0, 1), some (.getfield 9, 3), none, none, some (.bipush 26, 2), none, some (.iaload, 1), some (.istore_n 3, 1), some (.aload_n 0, 1), some (.aload_n 0, 1), some (.getfield 9, 3)],
  [none, none, some (.iload_n 1, 1), some (.invokevirtual 280, 3), none, none, some (.aload_n 0, 1), some (.iconst 0, 1), some (.putfield 117, 3), none, none, some (.aload_n 0, 1), some (.aload_n 0, 1), some (.getfield 9, 3), none, none],
  [some (.bipush 26, 2), none, some (.iaload, 1), some (.iload_n 3, 1), some (.isub, 1), some (.i2l, 1), some (.invokevirtual 284, 3), none, none, some (.aload_n 0, 1), some (.aload_n 0, 1), some (.aload_n 0, 1), some (.getfield 9, 3), none, none, some (.invokevirtual 288, 3)],
  [none, none, some (.i2l, 1), some (.invokevirtual 284, 3), none, none, some (.aload_n 0, 1), some (.getfield 9, 3), none, none, some (.bipush 25, 2), none, some (.iaload, 1), some (.iload_n 2, 1), some (.isub, 1), some (.ireturn, 1)]]
set_option maxRecDepth 100000 in
theorem zDX8_nights : zdrows cX8_nights 0 zJX8_nights = true := by decide +kernel
def zJX8_number : List (List (Option (Instr × Nat))) := [[some (.aload_n 0, 1), some (.bipush 48, 2), none, some (.bipush 10, 2), none, some (.invokevirtual 169, 3), none, none, some (.istore_n 2, 1), some (.iconst 1, 1), some (.istore_n 3, 1), some (.iload_n 3, 1), some (.iload_n 1, 1), some (.if_icmp .ge 44, 3), none, none],
  [some (.aload_n 0, 1), some (.invokevirtual 153, 3), none, none, some (.ifCond .eq 37, 3), none, none, some (.aload_n 0, 1), some (.invokevirtual 157, 3), none, none, some (.bipush 48, 2), none, some (.bipush 57, 2), none, some (.invokestatic 123, 3)],
  [none, none, some (.ifCond .eq 23, 3), none, none, some (.bipush 10, 2), none, some (.iload_n 2, 1), some (.imul, 1), some (.aload_n 0, 1), some (.bipush 48, 2), none, some (.bipush 10, 2), none, some (.invokevirtual 169, 3), none],
  [none, some (.iadd, 1), some (.istore_n 2, 1), some (.iinc 3 1, 3), none, none, some (.goto (-43), 3), none, none, some (.iload_n 2, 1), some (.ireturn, 1)]]
set_option maxRecDepth 100000 in
theorem zDX8_number : zdrows cX8_number 0 zJX8_number = true := by decide +kernel
def zJX8_oneOf : List (List (Option (Instr × Nat))) := [[some (.aload_n 0, 1), some (.invokevirtual 153, 3), none, none, some (.ifCond .ne 5, 3), none, none, some (.iconst 0, 1), some (.ireturn, 1), some (.aload_n 0, 1), some (.invokevirtual 157, 3), none, none, some (.iload_n 1, 1), some (.iload_n 1, 1), some (.iload_n 2, 1)],
  [some (.iadd, 1), some (.iconst 1, 1), some (.isub, 1), some (.invokestatic 123, 3), none, none, some (.ifCond .ne 13, 3), none, none, some (.aload_n 0, 1), some (.aload_n 0, 1), some (.getfield 143, 3), none, none, some (.invokevirtual 165, 3), none],
  [none, some (.iconst 0, 1), some (.ireturn, 1), some (.aload_n 0, 1), some (.dup, 1), some (.getfield 143, 3), none, none, some (.iconst 1, 1), some (.iadd, 1), some (.putfield 143, 3), none, none, some (.aload_n 0, 1), some (.getfield 134, 3), none],
  [none, some (.aload_n 0, 1), some (.getfield 143, 3), none, none, some (.iconst 1, 1), some (.isub, 1), some (.baload, 1), some (.iload_n 1, 1), some (.isub, 1), some (.ireturn, 1)]]
set_option maxRecDepth 100000 in
theorem zDX8_oneOf : zdrows cX8_oneOf 0 zJX8_oneOf = true := by decide +kernel
def zJX8_otherGets : List (List (Option (Instr × Nat))) := [[some (.iload_n 1, 1), some (.iload_n 0, 1), some (.if_icmp .le 9, 3), none, none, some (.iload_n 2, 1), some (.iload_n 0, 1), some (.isub, 1), some (.goto 4, 3), none, none, some (.iconst 0, 1), some (.ireturn, 1)]]
set_option maxRecDepth 100000 in
theorem zDX8_otherGets : zdrows cX8_otherGets 0 zJX8_otherGets = true := by decide +kernel
def zJX8_paid : List (List (Option (Instr × Nat))) := [[some (.aload_n 0, 1), some (.iconst 0, 1), some (.putfield 114, 3), none, none, some (.aload_n 0, 1), some (.iload_n 1, 1), some (.invokevirtual 127, 3), none, none, some (.ifCond .ne 5, 3), none, none, some (.iconst (-1), 1), some (.ireturn, 1), some (.aload_n 0, 1)],
  [some (.iload_n 1, 1), some (.invokevirtual 338, 3), none, none, some (.istore_n 2, 1), some (.aload_n 0, 1), some (.iconst (-1), 1), some (.invokevirtual 338, 3), none, none, some (.istore_n 3, 1), some (.iload_n 3, 1), some (.ldc 88, 2), none, some (.if_icmp .eq 9, 3), none],
  [none, some (.iload_n 2, 1), some (.ldc 88, 2), none, some (.if_icmp .ne 6, 3), none, none, some (.bipush (-2), 2), none, some (.ireturn, 1), some (.aload_n 0, 1), some (.iconst 0, 1), some (.iload_n 3, 1), some (.invokevirtual 341, 3), none, none],
  [some (.iconst 0, 1), some (.istore 4, 2), none, some (.iconst 0, 1), some (.istore 5, 2), none, some (.iload 5, 2), none, some (.aload_n 0, 1), some (.getfield 13, 3), none, none, some (.if_icmp .ge 41, 3), none, none, some (.iload 4, 2)],
  [none, some (.aload_n 0, 1), some (.getfield 92, 3), none, none, some (.iload 5, 2), none, some (.iaload, 1), some (.iload_n 1, 1), some (.if_icmp .ne 18, 3), none, none, some (.aload_n 0, 1), some (.getfield 79, 3), none, none],
  [some (.bipush 8, 2), none, some (.iload_n 1, 1), some (.imul, 1), some (.iload 5, 2), none, some (.iadd, 1), some (.iaload, 1), some (.goto 4, 3), none, none, some (.iconst 0, 1), some (.iadd, 1), some (.istore 4, 2), none, some (.iinc 5 1, 3)],
  [none, none, some (.goto (-44), 3), none, none, some (.aload_n 0, 1), some (.iconst 0, 1), some (.putfield 117, 3), none, none, some (.aload_n 0, 1), some (.iload 4, 2), none, some (.i2l, 1), some (.invokevirtual 284, 3), none],
  [none, some (.aload_n 0, 1), some (.iload_n 3, 1), some (.iload 4, 2), none, some (.isub, 1), some (.i2l, 1), some (.invokevirtual 284, 3), none, none, some (.iload_n 2, 1), some (.iload_n 3, 1), some (.iload 4, 2), none, some (.isub, 1), some (.isub, 1)],
  [some (.ireturn, 1)]]
set_option maxRecDepth 100000 in
theorem zDX8_paid : zdrows cX8_paid 0 zJX8_paid = true := by decide +kernel
def zJX8_passes : List (List (Option (Instr × Nat))) := [[some (.aload_n 0, 1), some (.invokevirtual 153, 3), none, none, some (.ifCond .eq 11, 3), none, none, some (.aload_n 0, 1), some (.invokevirtual 157, 3), none, none, some (.iload_n 1, 1), some (.if_icmp .eq 5, 3), none, none, some (.iconst 0, 1)],
  [some (.ireturn, 1), some (.aload_n 0, 1), some (.dup, 1), some (.getfield 143, 3), none, none, some (.iconst 1, 1), some (.iadd, 1), some (.putfield 143, 3), none, none, some (.iconst 1, 1), some (.ireturn, 1)]]
set_option maxRecDepth 100000 in
theorem zDX8_passes : zdrows cX8_passes 0 zJX8_passes = true := by decide +kernel
def zJX8_power : List (List (Option (Instr × Nat))) := [[some (.lconst 1, 1), some (.lstore_n 3, 1), some (.iconst 0, 1), some (.istore 5, 2), none, some (.iload 5, 2), none, some (.iload_n 2, 1), some (.if_icmp .ge 13, 3), none, none, some (.lload_n 3, 1), some (.lload_n 0, 1), some (.lmul, 1), some (.lstore_n 3, 1), some (.iinc 5 1, 3)],
  [none, none, some (.goto (-13), 3), none, none, some (.lload_n 3, 1), some (.lreturn, 1)]]
set_option maxRecDepth 100000 in
theorem zDX8_power : zdrows cX8_power 0 zJX8_power = true := by decide +kernel
def zJX8_product : List (List (Option (Instr × Nat))) := [[some (.aload_n 0, 1), some (.iload_n 1, 1), some (.invokevirtual 195, 3), none, none, some (.istore_n 2, 1), some (.aload_n 0, 1), some (.invokevirtual 153, 3), none, none, some (.ifCond .eq 81, 3), none, none, some (.aload_n 0, 1), some (.invokevirtual 157, 3), none],
  [none, some (.bipush 42, 2), none, some (.if_icmp .eq 12, 3), none, none, some (.aload_n 0, 1), some (.invokevirtual 157, 3), none, none, some (.bipush 47, 2), none, some (.if_icmp .ne 63, 3), none, none, some (.aload_n 0, 1)],
  [some (.invokevirtual 157, 3), none, none, some (.bipush 42, 2), none, some (.if_icmp .ne 7, 3), none, none, some (.iconst 1, 1), some (.goto 4, 3), none, none, some (.iconst 0, 1), some (.istore_n 3, 1), some (.aload_n 0, 1), some (.dup, 1)],
  [some (.getfield 143, 3), none, none, some (.iconst 1, 1), some (.iadd, 1), some (.putfield 143, 3), none, none, some (.aload_n 0, 1), some (.iload_n 1, 1), some (.invokevirtual 195, 3), none, none, some (.istore 4, 2), none, some (.iload_n 3, 1)],
  [some (.ifCond .eq 10, 3), none, none, some (.iload_n 2, 1), some (.iload 4, 2), none, some (.imul, 1), some (.goto 16, 3), none, none, some (.iload 4, 2), none, some (.ifCond .ne 7, 3), none, none, some (.iconst 0, 1)],
  [some (.goto 7, 3), none, none, some (.iload_n 2, 1), some (.iload 4, 2), none, some (.idiv, 1), some (.istore_n 2, 1), some (.goto (-82), 3), none, none, some (.iload_n 2, 1), some (.ireturn, 1)]]
set_option maxRecDepth 100000 in
theorem zDX8_product : zdrows cX8_product 0 zJX8_product = true := by decide +kernel
def zJX8_readAct : List (List (Option (Instr × Nat))) := [[some (.aload_n 0, 1), some (.invokevirtual 157, 3), none, none, some (.istore_n 2, 1), some (.iload_n 2, 1), some (.bipush 110, 2), none, some (.if_icmp .eq 30, 3), none, none, some (.iload_n 2, 1), some (.bipush 105, 2), none, some (.if_icmp .eq 24, 3), none],
  [none, some (.iload_n 2, 1), some (.bipush 103, 2), none, some (.if_icmp .eq 18, 3), none, none, some (.iload_n 2, 1), some (.bipush 120, 2), none, some (.if_icmp .eq 12, 3), none, none, some (.aload_n 0, 1), some (.aload_n 0, 1), some (.getfield 143, 3)],
  [none, none, some (.invokevirtual 165, 3), none, none, some (.return_, 1), some (.aload_n 0, 1), some (.dup, 1), some (.getfield 143, 3), none, none, some (.iconst 1, 1), some (.iadd, 1), some (.putfield 143, 3), none, none],
  [some (.aload_n 0, 1), some (.getfield 64, 3), none, none, some (.iload_n 1, 1), some (.iload_n 2, 1), some (.iastore, 1), some (.aload_n 0, 1), some (.getfield 64, 3), none, none, some (.iload_n 1, 1), some (.iconst 1, 1), some (.iadd, 1), some (.aload_n 0, 1), some (.bipush 48, 2)],
  [none, some (.bipush 10, 2), none, some (.invokevirtual 169, 3), none, none, some (.iastore, 1), some (.iload_n 2, 1), some (.bipush 103, 2), none, some (.if_icmp .ne 32, 3), none, none, some (.aload_n 0, 1), some (.getfield 64, 3), none],
  [none, some (.iload_n 1, 1), some (.iconst 2, 1), some (.iadd, 1), some (.aload_n 0, 1), some (.bipush 45, 2), none, some (.invokevirtual 161, 3), none, none, some (.ifCond .eq 7, 3), none, none, some (.iconst (-1), 1), some (.goto 11, 3), none],
  [none, some (.aload_n 0, 1), some (.bipush 48, 2), none, some (.bipush 10, 2), none, some (.invokevirtual 169, 3), none, none, some (.iastore, 1), some (.iload_n 2, 1), some (.bipush 120, 2), none, some (.if_icmp .ne 19, 3), none, none],
  [some (.aload_n 0, 1), some (.getfield 64, 3), none, none, some (.iload_n 1, 1), some (.iconst 2, 1), some (.iadd, 1), some (.aload_n 0, 1), some (.bipush 48, 2), none, some (.bipush 10, 2), none, some (.invokevirtual 169, 3), none, none, some (.iastore, 1)],
  [some (.return_, 1)]]
set_option maxRecDepth 100000 in
theorem zDX8_readAct : zdrows cX8_readAct 0 zJX8_readAct = true := by decide +kernel
def zJX8_readMan : List (List (Option (Instr × Nat))) := [[some (.aload_n 0, 1), some (.getfield 37, 3), none, none, some (.iload_n 1, 1), some (.aload_n 0, 1), some (.bipush 49, 2), none, some (.iconst 4, 1), some (.invokevirtual 169, 3), none, none, some (.iconst 1, 1), some (.iadd, 1), some (.iastore, 1), some (.aload_n 0, 1)],
  [some (.getfield 37, 3), none, none, some (.iload_n 1, 1), some (.iconst 1, 1), some (.iadd, 1), some (.aload_n 0, 1), some (.bipush 49, 2), none, some (.bipush 9, 2), none, some (.invokevirtual 169, 3), none, none, some (.iconst 1, 1), some (.iadd, 1)],
  [some (.iastore, 1), some (.aload_n 0, 1), some (.getfield 37, 3), none, none, some (.iload_n 1, 1), some (.iconst 2, 1), some (.iadd, 1), some (.iconst 0, 1), some (.iastore, 1), some (.iconst (-1), 1), some (.istore_n 2, 1), some (.aload_n 0, 1), some (.invokevirtual 153, 3), none, none],
  [some (.ifCond .eq 70, 3), none, none, some (.aload_n 0, 1), some (.invokevirtual 157, 3), none, none, some (.bipush 97, 2), none, some (.bipush 104, 2), none, some (.invokestatic 123, 3), none, none, some (.ifCond .eq 56, 3), none],
  [none, some (.aload_n 0, 1), some (.invokevirtual 157, 3), none, none, some (.bipush 97, 2), none, some (.isub, 1), some (.istore_n 3, 1), some (.iload_n 3, 1), some (.iload_n 2, 1), some (.if_icmp .gt 14, 3), none, none, some (.aload_n 0, 1), some (.aload_n 0, 1)],
  [some (.getfield 143, 3), none, none, some (.invokevirtual 165, 3), none, none, some (.goto 29, 3), none, none, some (.aload_n 0, 1), some (.dup, 1), some (.getfield 143, 3), none, none, some (.iconst 1, 1), some (.iadd, 1)],
  [some (.putfield 143, 3), none, none, some (.aload_n 0, 1), some (.getfield 37, 3), none, none, some (.iload_n 1, 1), some (.iconst 2, 1), some (.iadd, 1), some (.dup2, 1), some (.iaload, 1), some (.iconst 1, 1), some (.iload_n 3, 1), some (.ishl, 1), some (.ior, 1)],
  [some (.iastore, 1), some (.iload_n 3, 1), some (.istore_n 2, 1), some (.goto (-71), 3), none, none, some (.return_, 1)]]
set_option maxRecDepth 100000 in
theorem zDX8_readMan : zdrows cX8_readMan 0 zJX8_readMan = true := by decide +kernel
def zJX8_readRule : List (List (Option (Instr × Nat))) := [[some (.aload_n 0, 1), some (.bipush 40, 2), none, some (.invokevirtual 173, 3), none, none, some (.aload_n 0, 1), some (.iconst 0, 1), some (.putfield 211, 3), none, none, some (.aload_n 0, 1), some (.getfield 137, 3), none, none, some (.ifCond .le 9, 3)],
  [none, none, some (.aload_n 0, 1), some (.iconst 0, 1), some (.invokevirtual 198, 3), none, none, some (.pop, 1), some (.aload_n 0, 1), some (.invokevirtual 179, 3), none, none, some (.ireturn, 1)]]
set_option maxRecDepth 100000 in
theorem zDX8_readRule : zdrows cX8_readRule 0 zJX8_readRule = true := by decide +kernel
def zJX8_remember : List (List (Option (Instr × Nat))) := [[some (.aload_n 0, 1), some (.getfield 182, 3), none, none, some (.bipush 12, 2), none, some (.if_icmp .ne 43, 3), none, none, some (.iconst 0, 1), some (.istore_n 2, 1), some (.iload_n 2, 1), some (.sipush 297, 3), none, none, some (.if_icmp .ge 24, 3)],
  [none, none, some (.aload_n 0, 1), some (.getfield 49, 3), none, none, some (.iload_n 2, 1), some (.aload_n 0, 1), some (.getfield 49, 3), none, none, some (.iload_n 2, 1), some (.bipush 27, 2), none, some (.iadd, 1), some (.iaload, 1)],
  [some (.iastore, 1), some (.iinc 2 1, 3), none, none, some (.goto (-25), 3), none, none, some (.aload_n 0, 1), some (.dup, 1), some (.getfield 182, 3), none, none, some (.iconst 1, 1), some (.isub, 1), some (.putfield 182, 3), none],
  [none, some (.aload_n 1, 1), some (.aload_n 0, 1), some (.getfield 49, 3), none, none, some (.bipush 27, 2), none, some (.aload_n 0, 1), some (.getfield 182, 3), none, none, some (.imul, 1), some (.invokestatic 249, 3), none, none],
  [some (.aload_n 0, 1), some (.dup, 1), some (.getfield 182, 3), none, none, some (.iconst 1, 1), some (.iadd, 1), some (.putfield 182, 3), none, none, some (.return_, 1)]]
set_option maxRecDepth 100000 in
theorem zDX8_remember : zdrows cX8_remember 0 zJX8_remember = true := by decide +kernel
def zJX8_rests : List (List (Option (Instr × Nat))) := [[some (.aload_n 0, 1), some (.iconst 0, 1), some (.putfield 114, 3), none, none, some (.iload_n 1, 1), some (.iconst 0, 1), some (.bipush 9, 2), none, some (.invokestatic 123, 3), none, none, some (.ifCond .eq 13, 3), none, none, some (.iload_n 2, 1)],
  [some (.iconst 0, 1), some (.bipush 9, 2), none, some (.invokestatic 123, 3), none, none, some (.ifCond .ne 5, 3), none, none, some (.iconst (-1), 1), some (.ireturn, 1), some (.iconst 0, 1), some (.istore_n 3, 1), some (.iconst 0, 1), some (.istore 4, 2), none],
  [some (.aload_n 0, 1), some (.iconst 0, 1), some (.putfield 117, 3), none, none, some (.iconst 0, 1), some (.istore 5, 2), none, some (.iload 5, 2), none, some (.bipush 9, 2), none, some (.if_icmp .gt 78, 3), none, none, some (.iconst 0, 1)],
  [some (.istore 6, 2), none, some (.iload 6, 2), none, some (.bipush 9, 2), none, some (.if_icmp .gt 62, 3), none, none, some (.iload 5, 2), none, some (.iload 6, 2), none, some (.iload_n 1, 1), some (.iload_n 2, 1), some (.invokestatic 401, 3)],
  [none, none, some (.ifCond .ne 6, 3), none, none, some (.goto 41, 3), none, none, some (.iload_n 3, 1), some (.ifCond .ne 17, 3), none, none, some (.aload_n 0, 1), some (.iload 5, 2), none, some (.i2l, 1)],
  [some (.invokevirtual 284, 3), none, none, some (.aload_n 0, 1), some (.iload 6, 2), none, some (.i2l, 1), some (.invokevirtual 284, 3), none, none, some (.iinc 3 1, 3), none, none, some (.iload 4, 2), none, some (.iload 5, 2)],
  [none, some (.iload 6, 2), none, some (.if_icmp .lt 7, 3), none, none, some (.iconst 1, 1), some (.goto 4, 3), none, none, some (.iconst 0, 1), some (.iadd, 1), some (.istore 4, 2), none, some (.iinc 6 1, 3), none],
  [none, some (.goto (-63), 3), none, none, some (.iinc 5 1, 3), none, none, some (.goto (-79), 3), none, none, some (.iload_n 3, 1), some (.ifCond .le 10, 3), none, none, some (.aload_n 0, 1), some (.iload 4, 2)],
  [none, some (.i2l, 1), some (.invokevirtual 284, 3), none, none, some (.iload_n 3, 1), some (.ireturn, 1)]]
set_option maxRecDepth 100000 in
theorem zDX8_rests : zdrows cX8_rests 0 zJX8_rests = true := by decide +kernel
def zJX8_rider : List (List (Option (Instr × Nat))) := [[some (.aload_n 0, 1), some (.iconst 0, 1), some (.putfield 114, 3), none, none, some (.aload_n 0, 1), some (.iload_n 1, 1), some (.invokevirtual 127, 3), none, none, some (.ifCond .eq 12, 3), none, none, some (.iload_n 2, 1), some (.iconst 0, 1), some (.iconst 5, 1)],
  [some (.invokestatic 123, 3), none, none, some (.ifCond .ne 8, 3), none, none, some (.aload_n 0, 1), some (.invokevirtual 235, 3), none, none, some (.ireturn, 1), some (.iload_n 2, 1), some (.tableswitch 77 0 4 #[36, 43, 50, 57, 67], 36), none, none, none],
  [none, none, none, none, none, none, none, none, none, none, none, none, none, none, none, none],
  [none, none, none, none, none, none, none, none, none, none, none, none, none, none, none, none],
  [some (.aload_n 0, 1), some (.getfield 20, 3), none, none, some (.iload_n 1, 1), some (.iaload, 1), some (.ireturn, 1), some (.aload_n 0, 1), some (.getfield 23, 3), none, none, some (.iload_n 1, 1), some (.iaload, 1), some (.ireturn, 1), some (.aload_n 0, 1), some (.getfield 26, 3)],
  [none, none, some (.iload_n 1, 1), some (.iaload, 1), some (.ireturn, 1), some (.aload_n 0, 1), some (.getfield 9, 3), none, none, some (.bipush 8, 2), none, some (.iload_n 1, 1), some (.iadd, 1), some (.iaload, 1), some (.ireturn, 1), some (.aload_n 0, 1)],
  [some (.getfield 9, 3), none, none, some (.bipush 16, 2), none, some (.iload_n 1, 1), some (.iadd, 1), some (.iaload, 1), some (.ireturn, 1), some (.aload_n 0, 1), some (.aload_n 0, 1), some (.getfield 9, 3), none, none, some (.iload_n 1, 1), some (.invokevirtual 238, 3)],
  [none, none, some (.ireturn, 1)]]
set_option maxRecDepth 100000 in
theorem zDX8_rider : zdrows cX8_rider 0 zJX8_rider = true := by decide +kernel
def zJX8_riders : List (List (Option (Instr × Nat))) := [[some (.aload_n 0, 1), some (.iconst 0, 1), some (.putfield 114, 3), none, none, some (.aload_n 0, 1), some (.bipush 76, 2), none, some (.invokevirtual 173, 3), none, none, some (.aload_n 0, 1), some (.getfield 137, 3), none, none, some (.ifCond .ne 5, 3)],
  [none, none, some (.iconst 0, 1), some (.ireturn, 1), some (.iconst 0, 1), some (.istore_n 1, 1), some (.iconst 1, 1), some (.istore_n 2, 1), some (.iload_n 2, 1), some (.ifCond .eq 52, 3), none, none, some (.aload_n 0, 1), some (.invokevirtual 153, 3), none, none],
  [some (.ifCond .eq 45, 3), none, none, some (.aload_n 0, 1), some (.getfield 120, 3), none, none, some (.iload_n 1, 1), some (.iadd, 1), some (.bipush 8, 2), none, some (.if_icmp .ne 14, 3), none, none, some (.aload_n 0, 1), some (.aload_n 0, 1)],
  [some (.getfield 143, 3), none, none, some (.invokevirtual 165, 3), none, none, some (.goto 10, 3), none, none, some (.aload_n 0, 1), some (.iconst 3, 1), some (.iload_n 1, 1), some (.imul, 1), some (.invokevirtual 176, 3), none, none],
  [some (.iinc 1 1, 3), none, none, some (.aload_n 0, 1), some (.bipush 59, 2), none, some (.invokevirtual 161, 3), none, none, some (.istore_n 2, 1), some (.goto (-50), 3), none, none, some (.aload_n 0, 1), some (.invokevirtual 179, 3), none],
  [none, some (.ifCond .ne 10, 3), none, none, some (.iconst (-1), 1), some (.aload_n 0, 1), some (.getfield 146, 3), none, none, some (.isub, 1), some (.ireturn, 1), some (.iconst 0, 1), some (.istore_n 3, 1), some (.iload_n 3, 1), some (.iload_n 1, 1), some (.if_icmp .ge 100, 3)],
  [none, none, some (.aload_n 0, 1), some (.getfield 20, 3), none, none, some (.aload_n 0, 1), some (.getfield 120, 3), none, none, some (.aload_n 0, 1), some (.getfield 37, 3), none, none, some (.iconst 3, 1), some (.iload_n 3, 1)],
  [some (.imul, 1), some (.iaload, 1), some (.iastore, 1), some (.aload_n 0, 1), some (.getfield 23, 3), none, none, some (.aload_n 0, 1), some (.getfield 120, 3), none, none, some (.aload_n 0, 1), some (.getfield 37, 3), none, none, some (.iconst 3, 1)],
  [some (.iload_n 3, 1), some (.imul, 1), some (.iconst 1, 1), some (.iadd, 1), some (.iaload, 1), some (.iastore, 1), some (.aload_n 0, 1), some (.getfield 26, 3), none, none, some (.aload_n 0, 1), some (.getfield 120, 3), none, none, some (.aload_n 0, 1), some (.getfield 37, 3)],
  [none, none, some (.iconst 3, 1), some (.iload_n 3, 1), some (.imul, 1), some (.iconst 2, 1), some (.iadd, 1), some (.iaload, 1), some (.iastore, 1), some (.aload_n 0, 1), some (.getfield 9, 3), none, none, some (.bipush 8, 2), none, some (.aload_n 0, 1)],
  [some (.getfield 120, 3), none, none, some (.iadd, 1), some (.iconst 0, 1), some (.iastore, 1), some (.aload_n 0, 1), some (.getfield 9, 3), none, none, some (.bipush 16, 2), none, some (.aload_n 0, 1), some (.getfield 120, 3), none, none],
  [some (.iadd, 1), some (.iconst 0, 1), some (.iastore, 1), some (.aload_n 0, 1), some (.dup, 1), some (.getfield 120, 3), none, none, some (.iconst 1, 1), some (.iadd, 1), some (.putfield 120, 3), none, none, some (.iinc 3 1, 3), none, none],
  [some (.goto (-99), 3), none, none, some (.aload_n 0, 1), some (.iconst 0, 1), some (.putfield 182, 3), none, none, some (.aload_n 0, 1), some (.dup, 1), some (.getfield 185, 3), none, none, some (.iconst 1, 1), some (.iadd, 1), some (.putfield 185, 3)],
  [none, none, some (.iload_n 1, 1), some (.ireturn, 1)]]
set_option maxRecDepth 100000 in
theorem zDX8_riders : zdrows cX8_riders 0 zJX8_riders = true := by decide +kernel
