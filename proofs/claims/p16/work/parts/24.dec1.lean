def zJX4_holdTo : List (List (Option (Instr × Nat))) := [[some (.iconst 0, 1), some (.istore_n 3, 1), some (.iload_n 3, 1), some (.bipush 8, 2), none, some (.if_icmp .ge 20, 3), none, none, some (.iload_n 3, 1), some (.iload_n 2, 1), some (.if_icmp .eq 9, 3), none, none, some (.aload_n 0, 1), some (.iload_n 1, 1), some (.iload_n 3, 1)],
  [some (.invokevirtual 76, 3), none, none, some (.iinc 3 1, 3), none, none, some (.goto (-20), 3), none, none, some (.return_, 1)]]
set_option maxRecDepth 100000 in
theorem zDX4_holdTo : zdrows cX4_holdTo 0 zJX4_holdTo = true := by decide +kernel
def zJX4_init : List (List (Option (Instr × Nat))) := [[some (.aload_n 0, 1), some (.invokespecial 3, 3), none, none, some (.aload_n 0, 1), some (.bipush 8, 2), none, some (.newarray .int, 2), none, some (.putfield 9, 3), none, none, some (.aload_n 0, 1), some (.bipush 8, 2), none, some (.newarray .int, 2)],
  [none, some (.putfield 15, 3), none, none, some (.aload_n 0, 1), some (.bipush 8, 2), none, some (.newarray .int, 2), none, some (.putfield 18, 3), none, none, some (.aload_n 0, 1), some (.bipush 8, 2), none, some (.newarray .int, 2)],
  [none, some (.putfield 21, 3), none, none, some (.aload_n 0, 1), some (.bipush 64, 2), none, some (.newarray .long, 2), none, some (.putfield 24, 3), none, none, some (.aload_n 0, 1), some (.bipush 8, 2), none, some (.newarray .long, 2)],
  [none, some (.putfield 28, 3), none, none, some (.aload_n 0, 1), some (.sipush 256, 3), none, none, some (.newarray .long, 2), none, some (.putfield 31, 3), none, none, some (.aload_n 0, 1), some (.sipush 256, 3), none],
  [none, some (.newarray .long, 2), none, some (.putfield 34, 3), none, none, some (.aload_n 0, 1), some (.sipush 2304, 3), none, none, some (.newarray .int, 2), none, some (.putfield 37, 3), none, none, some (.aload_n 0, 1)],
  [some (.sipush 256, 3), none, none, some (.newarray .int, 2), none, some (.putfield 40, 3), none, none, some (.aload_n 0, 1), some (.bipush 64, 2), none, some (.newarray .int, 2), none, some (.putfield 43, 3), none, none],
  [some (.aload_n 0, 1), some (.sipush 256, 3), none, none, some (.newarray .boolean, 2), none, some (.putfield 46, 3), none, none, some (.aload_n 0, 1), some (.sipush 256, 3), none, none, some (.newarray .int, 2), none, some (.putfield 50, 3)],
  [none, none, some (.return_, 1)]]
set_option maxRecDepth 100000 in
theorem zDX4_init : zdrows cX4_init 0 zJX4_init = true := by decide +kernel
def zJX4_lacks : List (List (Option (Instr × Nat))) := [[some (.aload_n 0, 1), some (.getfield 46, 3), none, none, some (.iload_n 1, 1), some (.sipush 255, 3), none, none, some (.iand, 1), some (.baload, 1), some (.ireturn, 1)]]
set_option maxRecDepth 100000 in
theorem zDX4_lacks : zdrows cX4_lacks 0 zJX4_lacks = true := by decide +kernel
def zJX4_least : List (List (Option (Instr × Nat))) := [[some (.aload_n 0, 1), some (.getfield 34, 3), none, none, some (.ldc2_w 80, 3), none, none, some (.invokestatic 69, 3), none, none, some (.aload_n 0, 1), some (.getfield 34, 3), none, none, some (.iconst 0, 1), some (.lconst 0, 1)],
  [some (.lastore, 1), some (.iconst 0, 1), some (.istore_n 1, 1), some (.iload_n 1, 1), some (.bipush 8, 2), none, some (.if_icmp .ge 44, 3), none, none, some (.aload_n 0, 1), some (.aload_n 0, 1), some (.getfield 18, 3), none, none, some (.iload_n 1, 1), some (.iaload, 1)],
  [some (.invokevirtual 82, 3), none, none, some (.aload_n 0, 1), some (.aload_n 0, 1), some (.getfield 9, 3), none, none, some (.aload_n 0, 1), some (.getfield 18, 3), none, none, some (.iload_n 1, 1), some (.iaload, 1), some (.iaload, 1), some (.invokevirtual 86, 3)],
  [none, none, some (.aload_n 0, 1), some (.aload_n 0, 1), some (.getfield 21, 3), none, none, some (.iload_n 1, 1), some (.iaload, 1), some (.invokevirtual 89, 3), none, none, some (.iinc 1 1, 3), none, none, some (.goto (-44), 3)],
  [none, none, some (.aload_n 0, 1), some (.getfield 34, 3), none, none, some (.aload_n 0, 1), some (.getfield 53, 3), none, none, some (.laload, 1), some (.lreturn, 1)]]
set_option maxRecDepth 100000 in
theorem zDX4_least : zdrows cX4_least 0 zJX4_least = true := by decide +kernel
def zJX4_leastMost : List (List (Option (Instr × Nat))) := [[some (.aload_n 0, 1), some (.getfield 34, 3), none, none, some (.ldc2_w 80, 3), none, none, some (.invokestatic 69, 3), none, none, some (.aload_n 0, 1), some (.getfield 34, 3), none, none, some (.iconst 0, 1), some (.lconst 0, 1)],
  [some (.lastore, 1), some (.iconst 0, 1), some (.istore_n 1, 1), some (.iload_n 1, 1), some (.bipush 8, 2), none, some (.if_icmp .ge 24, 3), none, none, some (.aload_n 0, 1), some (.iload_n 1, 1), some (.invokevirtual 82, 3), none, none, some (.aload_n 0, 1), some (.aload_n 0, 1)],
  [some (.getfield 9, 3), none, none, some (.iload_n 1, 1), some (.iaload, 1), some (.invokevirtual 92, 3), none, none, some (.iinc 1 1, 3), none, none, some (.goto (-24), 3), none, none, some (.aload_n 0, 1), some (.getfield 34, 3)],
  [none, none, some (.aload_n 0, 1), some (.getfield 53, 3), none, none, some (.laload, 1), some (.lreturn, 1)]]
set_option maxRecDepth 100000 in
theorem zDX4_leastMost : zdrows cX4_leastMost 0 zJX4_leastMost = true := by decide +kernel
def zJX4_mostIn : List (List (Option (Instr × Nat))) := [[some (.iconst 0, 1), some (.istore_n 2, 1), some (.iconst 0, 1), some (.istore_n 3, 1), some (.iload_n 3, 1), some (.bipush 8, 2), none, some (.if_icmp .ge 25, 3), none, none, some (.iload_n 2, 1), some (.aload_n 0, 1), some (.getfield 43, 3), none, none, some (.iload_n 1, 1)],
  [some (.bipush 8, 2), none, some (.imul, 1), some (.iload_n 3, 1), some (.iadd, 1), some (.iaload, 1), some (.invokestatic 115, 3), none, none, some (.istore_n 2, 1), some (.iinc 3 1, 3), none, none, some (.goto (-25), 3), none, none],
  [some (.iload_n 2, 1), some (.ireturn, 1)]]
set_option maxRecDepth 100000 in
theorem zDX4_mostIn : zdrows cX4_mostIn 0 zJX4_mostIn = true := by decide +kernel
def zJX4_open : List (List (Option (Instr × Nat))) := [[some (.aload_n 0, 1), some (.iconst 1, 1), some (.iload_n 1, 1), some (.ishl, 1), some (.iconst 1, 1), some (.isub, 1), some (.putfield 53, 3), none, none, some (.aload_n 0, 1), some (.ldc2_w 57, 3), none, none, some (.putfield 59, 3), none, none],
  [some (.aload_n 0, 1), some (.getfield 9, 3), none, none, some (.iconst 0, 1), some (.invokestatic 63, 3), none, none, some (.aload_n 0, 1), some (.getfield 15, 3), none, none, some (.iconst 0, 1), some (.invokestatic 63, 3), none, none],
  [some (.aload_n 0, 1), some (.getfield 21, 3), none, none, some (.iconst 0, 1), some (.invokestatic 63, 3), none, none, some (.aload_n 0, 1), some (.getfield 28, 3), none, none, some (.lconst 0, 1), some (.invokestatic 69, 3), none, none],
  [some (.aload_n 0, 1), some (.getfield 24, 3), none, none, some (.lconst 0, 1), some (.invokestatic 69, 3), none, none, some (.iconst 0, 1), some (.istore_n 2, 1), some (.iload_n 2, 1), some (.bipush 8, 2), none, some (.if_icmp .ge 16, 3), none, none],
  [some (.aload_n 0, 1), some (.getfield 18, 3), none, none, some (.iload_n 2, 1), some (.iload_n 2, 1), some (.iastore, 1), some (.iinc 2 1, 3), none, none, some (.goto (-16), 3), none, none, some (.return_, 1)]]
set_option maxRecDepth 100000 in
theorem zDX4_open : zdrows cX4_open 0 zJX4_open = true := by decide +kernel
def zJX4_orderByWidth : List (List (Option (Instr × Nat))) := [[some (.iconst 1, 1), some (.istore_n 3, 1), some (.iload_n 3, 1), some (.iload_n 2, 1), some (.if_icmp .ge 82, 3), none, none, some (.iload_n 3, 1), some (.istore 4, 2), none, some (.iload 4, 2), none, some (.ifCond .le 68, 3), none, none, some (.aload_n 1, 1)],
  [some (.aload_n 0, 1), some (.getfield 18, 3), none, none, some (.iload 4, 2), none, some (.iaload, 1), some (.iaload, 1), some (.aload_n 1, 1), some (.aload_n 0, 1), some (.getfield 18, 3), none, none, some (.iload 4, 2), none, some (.iconst 1, 1)],
  [some (.isub, 1), some (.iaload, 1), some (.iaload, 1), some (.if_icmp .ge 45, 3), none, none, some (.aload_n 0, 1), some (.getfield 18, 3), none, none, some (.iload 4, 2), none, some (.iaload, 1), some (.istore 5, 2), none, some (.aload_n 0, 1)],
  [some (.getfield 18, 3), none, none, some (.iload 4, 2), none, some (.aload_n 0, 1), some (.getfield 18, 3), none, none, some (.iload 4, 2), none, some (.iconst 1, 1), some (.isub, 1), some (.iaload, 1), some (.iastore, 1), some (.aload_n 0, 1)],
  [some (.getfield 18, 3), none, none, some (.iload 4, 2), none, some (.iconst 1, 1), some (.isub, 1), some (.iload 5, 2), none, some (.iastore, 1), some (.iinc 4 (-1), 3), none, none, some (.goto (-67), 3), none, none],
  [some (.iinc 3 1, 3), none, none, some (.goto (-81), 3), none, none, some (.iconst 1, 1), some (.istore_n 3, 1), some (.iload_n 3, 1), some (.iload_n 2, 1), some (.if_icmp .ge 36, 3), none, none, some (.aload_n 0, 1), some (.getfield 21, 3), none],
  [none, some (.iload_n 3, 1), some (.iconst 1, 1), some (.isub, 1), some (.aload_n 1, 1), some (.aload_n 0, 1), some (.getfield 18, 3), none, none, some (.iload_n 3, 1), some (.iaload, 1), some (.iaload, 1), some (.aload_n 1, 1), some (.aload_n 0, 1), some (.getfield 18, 3), none],
  [none, some (.iload_n 3, 1), some (.iconst 1, 1), some (.isub, 1), some (.iaload, 1), some (.iaload, 1), some (.isub, 1), some (.iastore, 1), some (.iinc 3 1, 3), none, none, some (.goto (-35), 3), none, none, some (.return_, 1)]]
set_option maxRecDepth 100000 in
theorem zDX4_orderByWidth : zdrows cX4_orderByWidth 0 zJX4_orderByWidth = true := by decide +kernel
def zJX4_price : List (List (Option (Instr × Nat))) := [[some (.aload_n 0, 1), some (.iload_n 1, 1), some (.iload_n 2, 1), some (.iload_n 3, 1), some (.i2l, 1), some (.bipush 24, 2), none, some (.lshl, 1), some (.iload_n 1, 1), some (.i2l, 1), some (.iconst 3, 1), some (.bipush 7, 2), none, some (.iload_n 2, 1), some (.isub, 1), some (.imul, 1)],
  [some (.lshl, 1), some (.ladd, 1), some (.invokevirtual 72, 3), none, none, some (.return_, 1)]]
set_option maxRecDepth 100000 in
theorem zDX4_price : zdrows cX4_price 0 zJX4_price = true := by decide +kernel
def zJX4_priceOf : List (List (Option (Instr × Nat))) := [[some (.lload_n 0, 1), some (.bipush 24, 2), none, some (.lshr, 1), some (.l2i, 1), some (.ireturn, 1)]]
set_option maxRecDepth 100000 in
theorem zDX4_priceOf : zdrows cX4_priceOf 0 zJX4_priceOf = true := by decide +kernel
def zJX4_riderIn : List (List (Option (Instr × Nat))) := [[some (.lload_n 0, 1), some (.iconst 3, 1), some (.bipush 7, 2), none, some (.iload_n 2, 1), some (.isub, 1), some (.imul, 1), some (.lshr, 1), some (.l2i, 1), some (.bipush 7, 2), none, some (.iand, 1), some (.ireturn, 1)]]
set_option maxRecDepth 100000 in
theorem zDX4_riderIn : zdrows cX4_riderIn 0 zJX4_riderIn = true := by decide +kernel
def zJX4_seat : List (List (Option (Instr × Nat))) := [[some (.aload_n 0, 1), some (.getfield 9, 3), none, none, some (.iload_n 1, 1), some (.iload_n 2, 1), some (.aload_n 0, 1), some (.getfield 53, 3), none, none, some (.iand, 1), some (.iastore, 1), some (.aload_n 0, 1), some (.getfield 15, 3), none, none],
  [some (.iload_n 1, 1), some (.iload_n 3, 1), some (.iastore, 1), some (.return_, 1)]]
set_option maxRecDepth 100000 in
theorem zDX4_seat : zdrows cX4_seat 0 zJX4_seat = true := by decide +kernel
def zJX4_tallyAll : List (List (Option (Instr × Nat))) := [[some (.aload_n 0, 1), some (.getfield 43, 3), none, none, some (.iconst 0, 1), some (.invokestatic 63, 3), none, none, some (.aload_n 0, 1), some (.getfield 40, 3), none, none, some (.iconst 0, 1), some (.invokestatic 63, 3), none, none],
  [some (.aload_n 0, 1), some (.getfield 40, 3), none, none, some (.iconst 0, 1), some (.iconst 1, 1), some (.iastore, 1), some (.bipush 7, 2), none, some (.istore_n 1, 1), some (.iload_n 1, 1), some (.ifCond .lt 25, 3), none, none, some (.aload_n 0, 1), some (.iload_n 1, 1)],
  [some (.invokevirtual 108, 3), none, none, some (.aload_n 0, 1), some (.aload_n 0, 1), some (.getfield 40, 3), none, none, some (.iconst 0, 1), some (.iconst 0, 1), some (.iload_n 1, 1), some (.invokevirtual 104, 3), none, none, some (.iinc 1 (-1), 3), none],
  [none, some (.goto (-23), 3), none, none, some (.return_, 1)]]
set_option maxRecDepth 100000 in
theorem zDX4_tallyAll : zdrows cX4_tallyAll 0 zJX4_tallyAll = true := by decide +kernel
def zJX4_tallyRider : List (List (Option (Instr × Nat))) := [[some (.aload_n 0, 1), some (.getfield 9, 3), none, none, some (.iload_n 1, 1), some (.iaload, 1), some (.istore_n 2, 1), some (.iload_n 2, 1), some (.ifCond .le 88, 3), none, none, some (.iload_n 2, 1), some (.invokestatic 99, 3), none, none, some (.aload_n 0, 1)],
  [some (.getfield 15, 3), none, none, some (.iload_n 1, 1), some (.iaload, 1), some (.if_icmp .gt 61, 3), none, none, some (.aload_n 0, 1), some (.iload_n 1, 1), some (.aload_n 0, 1), some (.getfield 53, 3), none, none, some (.iload_n 2, 1), some (.ixor, 1)],
  [some (.invokevirtual 111, 3), none, none, some (.istore_n 3, 1), some (.iconst 0, 1), some (.istore 4, 2), none, some (.iload 4, 2), none, some (.bipush 8, 2), none, some (.if_icmp .ge 39, 3), none, none, some (.aload_n 0, 1), some (.getfield 43, 3)],
  [none, none, some (.iload 4, 2), none, some (.bipush 8, 2), none, some (.imul, 1), some (.iload_n 1, 1), some (.iadd, 1), some (.dup2, 1), some (.iaload, 1), some (.iload_n 2, 1), some (.iload 4, 2), none, some (.ishr, 1), some (.iconst 1, 1)],
  [some (.iand, 1), some (.iconst 1, 1), some (.if_icmp .ne 7, 3), none, none, some (.iload_n 3, 1), some (.goto 4, 3), none, none, some (.iconst 0, 1), some (.iadd, 1), some (.iastore, 1), some (.iinc 4 1, 3), none, none, some (.goto (-40), 3)],
  [none, none, some (.iload_n 2, 1), some (.iconst 1, 1), some (.isub, 1), some (.aload_n 0, 1), some (.getfield 9, 3), none, none, some (.iload_n 1, 1), some (.iaload, 1), some (.iand, 1), some (.istore_n 2, 1), some (.goto (-86), 3), none, none],
  [some (.return_, 1)]]
set_option maxRecDepth 100000 in
theorem zDX4_tallyRider : zdrows cX4_tallyRider 0 zJX4_tallyRider = true := by decide +kernel
def zJX4_ways : List (List (Option (Instr × Nat))) := [[some (.iconst 0, 1), some (.istore_n 1, 1), some (.iload_n 1, 1), some (.sipush 256, 3), none, none, some (.if_icmp .ge 24, 3), none, none, some (.aload_n 0, 1), some (.getfield 37, 3), none, none, some (.iload_n 1, 1), some (.iload_n 1, 1), some (.ifCond .ne 7, 3)],
  [none, none, some (.iconst 1, 1), some (.goto 4, 3), none, none, some (.iconst 0, 1), some (.iastore, 1), some (.iinc 1 1, 3), none, none, some (.goto (-25), 3), none, none, some (.iconst 0, 1), some (.istore_n 1, 1)],
  [some (.iload_n 1, 1), some (.bipush 8, 2), none, some (.if_icmp .ge 30, 3), none, none, some (.aload_n 0, 1), some (.aload_n 0, 1), some (.getfield 37, 3), none, none, some (.iload_n 1, 1), some (.sipush 256, 3), none, none, some (.imul, 1)],
  [some (.iload_n 1, 1), some (.iconst 1, 1), some (.iadd, 1), some (.sipush 256, 3), none, none, some (.imul, 1), some (.iload_n 1, 1), some (.invokevirtual 104, 3), none, none, some (.iinc 1 1, 3), none, none, some (.goto (-30), 3), none],
  [none, some (.aload_n 0, 1), some (.getfield 37, 3), none, none, some (.sipush 2048, 3), none, none, some (.aload_n 0, 1), some (.getfield 53, 3), none, none, some (.iadd, 1), some (.iaload, 1), some (.ireturn, 1)]]
set_option maxRecDepth 100000 in
theorem zDX4_ways : zdrows cX4_ways 0 zJX4_ways = true := by decide +kernel
def zJX4_waysRound : List (List (Option (Instr × Nat))) := [[some (.aload_n 0, 1), some (.getfield 37, 3), none, none, some (.iload_n 1, 1), some (.sipush 256, 3), none, none, some (.imul, 1), some (.iaload, 1), some (.aload_n 0, 1), some (.getfield 40, 3), none, none, some (.iload_n 2, 1), some (.iaload, 1)],
  [some (.imul, 1), some (.istore_n 3, 1), some (.iload_n 2, 1), some (.istore 4, 2), none, some (.iload 4, 2), none, some (.ifCond .le 40, 3), none, none, some (.iload_n 3, 1), some (.aload_n 0, 1), some (.getfield 37, 3), none, none, some (.iload_n 1, 1)],
  [some (.sipush 256, 3), none, none, some (.imul, 1), some (.iload 4, 2), none, some (.iadd, 1), some (.iaload, 1), some (.aload_n 0, 1), some (.getfield 40, 3), none, none, some (.iload_n 2, 1), some (.iload 4, 2), none, some (.ixor, 1)],
  [some (.iaload, 1), some (.imul, 1), some (.iadd, 1), some (.istore_n 3, 1), some (.iload 4, 2), none, some (.iconst 1, 1), some (.isub, 1), some (.iload_n 2, 1), some (.iand, 1), some (.istore 4, 2), none, some (.goto (-39), 3), none, none, some (.iload_n 3, 1)],
  [some (.ireturn, 1)]]
set_option maxRecDepth 100000 in
theorem zDX4_waysRound : zdrows cX4_waysRound 0 zJX4_waysRound = true := by decide +kernel
def zJX4_weigh : List (List (Option (Instr × Nat))) := [[some (.aload_n 0, 1), some (.getfield 31, 3), none, none, some (.iconst 0, 1), some (.lconst 0, 1), some (.lastore, 1), some (.iconst 1, 1), some (.istore_n 2, 1), some (.iload_n 2, 1), some (.aload_n 0, 1), some (.getfield 53, 3), none, none, some (.if_icmp .gt 110, 3), none],
  [none, some (.iload_n 2, 1), some (.aload_n 0, 1), some (.getfield 9, 3), none, none, some (.iload_n 1, 1), some (.iaload, 1), some (.iconst (-1), 1), some (.ixor, 1), some (.iand, 1), some (.ifCond .eq 6, 3), none, none, some (.goto 88, 3), none],
  [none, some (.iload_n 2, 1), some (.iload_n 2, 1), some (.iconst 1, 1), some (.isub, 1), some (.iand, 1), some (.istore_n 3, 1), some (.aload_n 0, 1), some (.getfield 31, 3), none, none, some (.iload_n 3, 1), some (.laload, 1), some (.aload_n 0, 1), some (.getfield 24, 3), none],
  [none, some (.iload_n 1, 1), some (.bipush 8, 2), none, some (.imul, 1), some (.iload_n 2, 1), some (.invokestatic 95, 3), none, none, some (.iadd, 1), some (.laload, 1), some (.ladd, 1), some (.lstore 4, 2), none, some (.lload 4, 2), none],
  [some (.iload_n 3, 1), some (.ifCond .ne 12, 3), none, none, some (.aload_n 0, 1), some (.getfield 28, 3), none, none, some (.iload_n 1, 1), some (.laload, 1), some (.goto 4, 3), none, none, some (.lconst 0, 1), some (.ladd, 1), some (.lstore 4, 2)],
  [none, some (.aload_n 0, 1), some (.getfield 31, 3), none, none, some (.iload_n 2, 1), some (.iload_n 2, 1), some (.invokestatic 99, 3), none, none, some (.aload_n 0, 1), some (.getfield 15, 3), none, none, some (.iload_n 1, 1), some (.iaload, 1)],
  [some (.if_icmp .gt 13, 3), none, none, some (.lload 4, 2), none, some (.aload_n 0, 1), some (.getfield 59, 3), none, none, some (.lcmp, 1), some (.ifCond .le 9, 3), none, none, some (.ldc2_w 80, 3), none, none],
  [some (.goto 5, 3), none, none, some (.lload 4, 2), none, some (.lastore, 1), some (.iinc 2 1, 3), none, none, some (.goto (-112), 3), none, none, some (.return_, 1)]]
set_option maxRecDepth 100000 in
theorem zDX4_weigh : zdrows cX4_weigh 0 zJX4_weigh = true := by decide +kernel
def zJX5_copy : List (List (Option (Instr × Nat))) := [[some (.aload_n 1, 1), some (.getfield 9, 3), none, none, some (.iconst 0, 1), some (.aload_n 0, 1), some (.getfield 9, 3), none, none, some (.iconst 0, 1), some (.bipush 8, 2), none, some (.invokestatic 24, 3), none, none, some (.aload_n 1, 1)],
  [some (.getfield 15, 3), none, none, some (.iconst 0, 1), some (.aload_n 0, 1), some (.getfield 15, 3), none, none, some (.iconst 0, 1), some (.bipush 8, 2), none, some (.invokestatic 24, 3), none, none, some (.aload_n 0, 1), some (.aload_n 1, 1)],
  [some (.getfield 30, 3), none, none, some (.putfield 30, 3), none, none, some (.aload_n 0, 1), some (.aload_n 1, 1), some (.getfield 34, 3), none, none, some (.putfield 34, 3), none, none, some (.aload_n 0, 1), some (.aload_n 1, 1)],
  [some (.getfield 37, 3), none, none, some (.putfield 37, 3), none, none, some (.aload_n 0, 1), some (.aload_n 1, 1), some (.getfield 40, 3), none, none, some (.putfield 40, 3), none, none, some (.return_, 1)]]
set_option maxRecDepth 100000 in
theorem zDX5_copy : zdrows cX5_copy 0 zJX5_copy = true := by decide +kernel
def zJX5_hoursOf : List (List (Option (Instr × Nat))) := [[some (.iconst 0, 1), some (.istore_n 2, 1), some (.iconst 0, 1), some (.istore_n 3, 1), some (.iload_n 3, 1), some (.bipush 8, 2), none, some (.if_icmp .ge 29, 3), none, none, some (.iload_n 2, 1), some (.aload_n 0, 1), some (.getfield 9, 3), none, none, some (.iload_n 3, 1)],
  [some (.iaload, 1), some (.iload_n 1, 1), some (.if_icmp .ne 9, 3), none, none, some (.iconst 1, 1), some (.iload_n 3, 1), some (.ishl, 1), some (.goto 4, 3), none, none, some (.iconst 0, 1), some (.ior, 1), some (.istore_n 2, 1), some (.iinc 3 1, 3), none],
  [none, some (.goto (-29), 3), none, none, some (.iload_n 2, 1), some (.ireturn, 1)]]
set_option maxRecDepth 100000 in
theorem zDX5_hoursOf : zdrows cX5_hoursOf 0 zJX5_hoursOf = true := by decide +kernel
def zJX5_init : List (List (Option (Instr × Nat))) := [[some (.aload_n 0, 1), some (.invokespecial 3, 3), none, none, some (.aload_n 0, 1), some (.bipush 8, 2), none, some (.newarray .int, 2), none, some (.putfield 9, 3), none, none, some (.aload_n 0, 1), some (.bipush 8, 2), none, some (.newarray .int, 2)],
  [none, some (.putfield 15, 3), none, none, some (.aload_n 0, 1), some (.getfield 9, 3), none, none, some (.iconst (-1), 1), some (.invokestatic 18, 3), none, none, some (.return_, 1)]]
set_option maxRecDepth 100000 in
theorem zDX5_init : zdrows cX5_init 0 zJX5_init = true := by decide +kernel
def zJX5_isIll : List (List (Option (Instr × Nat))) := [[some (.aload_n 0, 1), some (.getfield 30, 3), none, none, some (.iload_n 1, 1), some (.ishr, 1), some (.iconst 1, 1), some (.iand, 1), some (.iconst 1, 1), some (.if_icmp .ne 7, 3), none, none, some (.iconst 1, 1), some (.goto 4, 3), none, none],
  [some (.iconst 0, 1), some (.ireturn, 1)]]
set_option maxRecDepth 100000 in
theorem zDX5_isIll : zdrows cX5_isIll 0 zJX5_isIll = true := by decide +kernel
def zJX5_mostTired : List (List (Option (Instr × Nat))) := [[some (.iconst 0, 1), some (.istore_n 1, 1), some (.iconst 0, 1), some (.istore_n 2, 1), some (.iload_n 2, 1), some (.bipush 8, 2), none, some (.if_icmp .ge 20, 3), none, none, some (.iload_n 1, 1), some (.aload_n 0, 1), some (.getfield 15, 3), none, none, some (.iload_n 2, 1)],
  [some (.iaload, 1), some (.invokestatic 43, 3), none, none, some (.istore_n 1, 1), some (.iinc 2 1, 3), none, none, some (.goto (-20), 3), none, none, some (.iload_n 1, 1), some (.ireturn, 1)]]
set_option maxRecDepth 100000 in
theorem zDX5_mostTired : zdrows cX5_mostTired 0 zJX5_mostTired = true := by decide +kernel
def zJX5_tiredOfAll : List (List (Option (Instr × Nat))) := [[some (.iconst 0, 1), some (.istore_n 1, 1), some (.iconst 0, 1), some (.istore_n 2, 1), some (.iload_n 2, 1), some (.bipush 8, 2), none, some (.if_icmp .ge 18, 3), none, none, some (.iload_n 1, 1), some (.aload_n 0, 1), some (.getfield 15, 3), none, none, some (.iload_n 2, 1)],
  [some (.iaload, 1), some (.iadd, 1), some (.istore_n 1, 1), some (.iinc 2 1, 3), none, none, some (.goto (-18), 3), none, none, some (.iload_n 1, 1), some (.ireturn, 1)]]
set_option maxRecDepth 100000 in
theorem zDX5_tiredOfAll : zdrows cX5_tiredOfAll 0 zJX5_tiredOfAll = true := by decide +kernel
def zJX5_turnIll : List (List (Option (Instr × Nat))) := [[some (.aload_n 0, 1), some (.dup, 1), some (.getfield 30, 3), none, none, some (.iconst 1, 1), some (.iload_n 1, 1), some (.ishl, 1), some (.ixor, 1), some (.putfield 30, 3), none, none, some (.return_, 1)]]
set_option maxRecDepth 100000 in
theorem zDX5_turnIll : zdrows cX5_turnIll 0 zJX5_turnIll = true := by decide +kernel
def zJX6_add : List (List (Option (Instr × Nat))) := [[some (.aload_n 0, 1), some (.getfield 15, 3), none, none, some (.iconst 4, 1), some (.iadd, 1), some (.bipush 80, 2), none, some (.if_icmp .le 5, 3), none, none, some (.iconst (-1), 1), some (.ireturn, 1), some (.bipush 24, 2), none, some (.istore_n 2, 1)],
  [some (.iload_n 2, 1), some (.ifCond .lt 35, 3), none, none, some (.aload_n 0, 1), some (.getfield 11, 3), none, none, some (.aload_n 0, 1), some (.getfield 15, 3), none, none, some (.iload_n 1, 1), some (.iload_n 2, 1), some (.iushr, 1), some (.sipush 255, 3)],
  [none, none, some (.iand, 1), some (.iastore, 1), some (.aload_n 0, 1), some (.dup, 1), some (.getfield 15, 3), none, none, some (.iconst 1, 1), some (.iadd, 1), some (.putfield 15, 3), none, none, some (.iinc 2 (-8), 3), none],
  [none, some (.goto (-33), 3), none, none, some (.aload_n 0, 1), some (.getfield 15, 3), none, none, some (.ireturn, 1)]]
set_option maxRecDepth 100000 in
theorem zDX6_add : zdrows cX6_add 0 zJX6_add = true := by decide +kernel
def zJX6_at : List (List (Option (Instr × Nat))) := [[some (.iload_n 1, 1), some (.ifCond .lt 20, 3), none, none, some (.iload_n 1, 1), some (.aload_n 0, 1), some (.getfield 15, 3), none, none, some (.if_icmp .ge 12, 3), none, none, some (.aload_n 0, 1), some (.getfield 11, 3), none, none],
  [some (.iload_n 1, 1), some (.iaload, 1), some (.goto 4, 3), none, none, some (.iconst (-1), 1), some (.ireturn, 1)]]
set_option maxRecDepth 100000 in
theorem zDX6_at : zdrows cX6_at 0 zJX6_at = true := by decide +kernel
def zJX6_cut : List (List (Option (Instr × Nat))) := [[some (.iload_n 1, 1), some (.ifCond .lt 11, 3), none, none, some (.iload_n 1, 1), some (.aload_n 0, 1), some (.getfield 15, 3), none, none, some (.if_icmp .le 5, 3), none, none, some (.iconst 0, 1), some (.ireturn, 1), some (.aload_n 0, 1), some (.iload_n 1, 1)],
  [some (.putfield 15, 3), none, none, some (.iconst 1, 1), some (.ireturn, 1)]]
set_option maxRecDepth 100000 in
theorem zDX6_cut : zdrows cX6_cut 0 zJX6_cut = true := by decide +kernel
def zJX6_empty : List (List (Option (Instr × Nat))) := [[some (.aload_n 0, 1), some (.iconst 0, 1), some (.putfield 15, 3), none, none, some (.return_, 1)]]
set_option maxRecDepth 100000 in
theorem zDX6_empty : zdrows cX6_empty 0 zJX6_empty = true := by decide +kernel
def zJX6_init : List (List (Option (Instr × Nat))) := [[some (.aload_n 0, 1), some (.invokespecial 3, 3), none, none, some (.aload_n 0, 1), some (.bipush 80, 2), none, some (.newarray .int, 2), none, some (.putfield 11, 3), none, none, some (.return_, 1)]]
set_option maxRecDepth 100000 in
theorem zDX6_init : zdrows cX6_init 0 zJX6_init = true := by decide +kernel
def zJX7_able : List (List (Option (Instr × Nat))) := [[some (.iload_n 1, 1), some (.invokestatic 134, 3), none, none, some (.ifCond .ne 5, 3), none, none, some (.iconst (-1), 1), some (.ireturn, 1), some (.aload_n 0, 1), some (.getfield 61, 3), none, none, some (.invokevirtual 316, 3), none, none],
  [some (.iconst 0, 1), some (.istore_n 2, 1), some (.iconst 0, 1), some (.istore_n 3, 1), some (.iload_n 3, 1), some (.aload_n 0, 1), some (.getfield 19, 3), none, none, some (.getfield 154, 3), none, none, some (.if_icmp .ge 43, 3), none, none, some (.aload_n 0, 1)],
  [some (.iload_n 1, 1), some (.iload_n 2, 1), some (.invokevirtual 317, 3), none, none, some (.istore 4, 2), none, some (.iload 4, 2), none, some (.iconst (-1), 1), some (.if_icmp .ne 6, 3), none, none, some (.goto 26, 3), none, none],
  [some (.iload_n 2, 1), some (.iconst 1, 1), some (.iload 4, 2), none, some (.ishl, 1), some (.ior, 1), some (.istore_n 2, 1), some (.aload_n 0, 1), some (.getfield 61, 3), none, none, some (.iload 4, 2), none, some (.i2l, 1), some (.invokevirtual 256, 3), none],
  [none, some (.iinc 3 1, 3), none, none, some (.goto (-48), 3), none, none, some (.iload_n 2, 1), some (.invokestatic 193, 3), none, none, some (.ireturn, 1)]]
set_option maxRecDepth 100000 in
theorem zDX7_able : zdrows cX7_able 0 zJX7_able = true := by decide +kernel
def zJX7_act : List (List (Option (Instr × Nat))) := [[some (.iload_n 2, 1), some (.bipush 48, 2), none, some (.isub, 1), some (.istore 4, 2), none, some (.iload_n 3, 1), some (.bipush 45, 2), none, some (.if_icmp .ne 7, 3), none, none, some (.iconst (-1), 1), some (.goto 7, 3), none, none],
  [some (.iload_n 3, 1), some (.bipush 48, 2), none, some (.isub, 1), some (.istore 5, 2), none, some (.iload_n 1, 1), some (.lookupswitch 64 #[(103, 55), (105, 48), (110, 33)], 33), none, none, none, none, none, none, none, none],
  [none, none, none, none, none, none, none, none, none, none, none, none, none, none, none, none],
  [none, none, none, none, none, none, none, none, some (.aload_n 0, 1), some (.getfield 19, 3), none, none, some (.aload_n 0, 1), some (.getfield 26, 3), none, none],
  [some (.iload 4, 2), none, some (.invokevirtual 204, 3), none, none, some (.iconst 1, 1), some (.ireturn, 1), some (.aload_n 0, 1), some (.iload 4, 2), none, some (.invokevirtual 417, 3), none, none, some (.ireturn, 1), some (.aload_n 0, 1), some (.iload 4, 2)],
  [none, some (.iload 5, 2), none, some (.invokevirtual 420, 3), none, none, some (.ireturn, 1), some (.aload_n 0, 1), some (.iload 4, 2), none, some (.iload 5, 2), none, some (.invokevirtual 423, 3), none, none, some (.ireturn, 1)]]
set_option maxRecDepth 100000 in
theorem zDX7_act : zdrows cX7_act 0 zJX7_act = true := by decide +kernel
def zJX7_actExchange : List (List (Option (Instr × Nat))) := [[some (.aload_n 0, 1), some (.getfield 19, 3), none, none, some (.iload_n 1, 1), some (.iload_n 2, 1), some (.invokevirtual 328, 3), none, none, some (.ifCond .ne 5, 3), none, none, some (.iconst 0, 1), some (.ireturn, 1), some (.iconst 0, 1), some (.istore_n 3, 1)],
  [some (.iload_n 3, 1), some (.bipush 8, 2), none, some (.if_icmp .ge 58, 3), none, none, some (.aload_n 0, 1), some (.getfield 26, 3), none, none, some (.getfield 183, 3), none, none, some (.iload_n 3, 1), some (.iaload, 1), some (.iload_n 1, 1)],
  [some (.if_icmp .ne 16, 3), none, none, some (.aload_n 0, 1), some (.getfield 26, 3), none, none, some (.getfield 183, 3), none, none, some (.iload_n 3, 1), some (.iload_n 2, 1), some (.iastore, 1), some (.goto 26, 3), none, none],
  [some (.aload_n 0, 1), some (.getfield 26, 3), none, none, some (.getfield 183, 3), none, none, some (.iload_n 3, 1), some (.iaload, 1), some (.iload_n 2, 1), some (.if_icmp .ne 13, 3), none, none, some (.aload_n 0, 1), some (.getfield 26, 3), none],
  [none, some (.getfield 183, 3), none, none, some (.iload_n 3, 1), some (.iload_n 1, 1), some (.iastore, 1), some (.iinc 3 1, 3), none, none, some (.goto (-58), 3), none, none, some (.iconst 1, 1), some (.ireturn, 1)]]
set_option maxRecDepth 100000 in
theorem zDX7_actExchange : zdrows cX7_actExchange 0 zJX7_actExchange = true := by decide +kernel
def zJX7_actGive : List (List (Option (Instr × Nat))) := [[some (.iload_n 1, 1), some (.invokestatic 134, 3), none, none, some (.ifCond .eq 14, 3), none, none, some (.aload_n 0, 1), some (.getfield 19, 3), none, none, some (.iload_n 2, 1), some (.invokevirtual 180, 3), none, none, some (.ifCond .ne 5, 3)],
  [none, none, some (.iconst 0, 1), some (.ireturn, 1), some (.aload_n 0, 1), some (.getfield 26, 3), none, none, some (.getfield 183, 3), none, none, some (.iload_n 1, 1), some (.iload_n 2, 1), some (.iastore, 1), some (.iconst 1, 1), some (.ireturn, 1)]]
set_option maxRecDepth 100000 in
theorem zDX7_actGive : zdrows cX7_actGive 0 zJX7_actGive = true := by decide +kernel
def zJX7_actIll : List (List (Option (Instr × Nat))) := [[some (.aload_n 0, 1), some (.getfield 19, 3), none, none, some (.iload_n 1, 1), some (.invokevirtual 110, 3), none, none, some (.ifCond .ne 5, 3), none, none, some (.iconst 0, 1), some (.ireturn, 1), some (.aload_n 0, 1), some (.getfield 26, 3), none],
  [none, some (.iload_n 1, 1), some (.invokevirtual 186, 3), none, none, some (.iconst 1, 1), some (.ireturn, 1)]]
set_option maxRecDepth 100000 in
theorem zDX7_actIll : zdrows cX7_actIll 0 zJX7_actIll = true := by decide +kernel
def zJX7_actSigns : List (List (Option (Instr × Nat))) := [[some (.iload_n 0, 1), some (.lookupswitch 47 #[(103, 45), (105, 43), (110, 43), (120, 45)], 43), none, none, none, none, none, none, none, none, none, none, none, none, none, none],
  [none, none, none, none, none, none, none, none, none, none, none, none, none, none, none, none],
  [none, none, none, none, none, none, none, none, none, none, none, none, some (.iconst 2, 1), some (.ireturn, 1), some (.iconst 3, 1), some (.ireturn, 1)],
  [some (.iconst 1, 1), some (.ireturn, 1)]]
set_option maxRecDepth 100000 in
theorem zDX7_actSigns : zdrows cX7_actSigns 0 zJX7_actSigns = true := by decide +kernel
def zJX7_again : List (List (Option (Instr × Nat))) := [[some (.iload_n 1, 1), some (.ifCond .lt 17, 3), none, none, some (.iload_n 1, 1), some (.iconst 2, 1), some (.if_icmp .ge 12, 3), none, none, some (.aload_n 0, 1), some (.getfield 47, 3), none, none, some (.iload_n 1, 1), some (.baload, 1), some (.ifCond .ne 5, 3)],
  [none, none, some (.iconst 0, 1), some (.ireturn, 1), some (.aload_n 0, 1), some (.getfield 26, 3), none, none, some (.aload_n 0, 1), some (.getfield 43, 3), none, none, some (.iload_n 1, 1), some (.aaload, 1), some (.invokevirtual 170, 3), none],
  [none, some (.aload_n 0, 1), some (.getfield 39, 3), none, none, some (.invokevirtual 97, 3), none, none, some (.iconst 1, 1), some (.ireturn, 1)]]
set_option maxRecDepth 100000 in
theorem zDX7_again : zdrows cX7_again 0 zJX7_again = true := by decide +kernel
def zJX7_ask : List (List (Option (Instr × Nat))) := [[some (.aload_n 0, 1), some (.invokevirtual 348, 3), none, none, some (.aload_n 0, 1), some (.getfield 54, 3), none, none, some (.invokevirtual 351, 3), none, none, some (.ifCond .ne 6, 3), none, none, some (.bipush (-2), 2), none],
  [some (.ireturn, 1), some (.aload_n 0, 1), some (.getfield 54, 3), none, none, some (.invokevirtual 361, 3), none, none, some (.aload_n 0, 1), some (.getfield 54, 3), none, none, some (.iconst 0, 1), some (.invokevirtual 364, 3), none, none],
  [some (.istore_n 1, 1), some (.iconst 0, 1), some (.istore_n 2, 1), some (.iconst 1, 1), some (.istore_n 3, 1), some (.iload_n 3, 1), some (.aload_n 0, 1), some (.getfield 19, 3), none, none, some (.getfield 141, 3), none, none, some (.if_icmp .ge 30, 3), none, none],
  [some (.aload_n 0, 1), some (.getfield 54, 3), none, none, some (.iload_n 3, 1), some (.invokevirtual 364, 3), none, none, some (.istore 4, 2), none, some (.iload 4, 2), none, some (.iload_n 1, 1), some (.if_icmp .ge 8, 3), none, none],
  [some (.iload 4, 2), none, some (.istore_n 1, 1), some (.iload_n 3, 1), some (.istore_n 2, 1), some (.iinc 3 1, 3), none, none, some (.goto (-35), 3), none, none, some (.aload_n 0, 1), some (.getfield 61, 3), none, none, some (.iload_n 1, 1)],
  [some (.i2l, 1), some (.invokevirtual 247, 3), none, none, some (.iload_n 2, 1), some (.ireturn, 1)]]
set_option maxRecDepth 100000 in
theorem zDX7_ask : zdrows cX7_ask 0 zJX7_ask = true := by decide +kernel
def zJX7_away : List (List (Option (Instr × Nat))) := [[some (.aload_n 0, 1), some (.iconst (-1), 1), some (.invokevirtual 268, 3), none, none, some (.iconst 0, 1), some (.istore_n 1, 1), some (.iload_n 1, 1), some (.aload_n 0, 1), some (.getfield 19, 3), none, none, some (.getfield 154, 3), none, none, some (.if_icmp .ge 26, 3)],
  [none, none, some (.aload_n 0, 1), some (.getfield 54, 3), none, none, some (.getfield 271, 3), none, none, some (.iload_n 1, 1), some (.sipush 512, 3), none, none, some (.iconst 1, 1), some (.iload_n 1, 1), some (.ishl, 1)],
  [some (.isub, 1), some (.i2l, 1), some (.lastore, 1), some (.iinc 1 1, 3), none, none, some (.goto (-31), 3), none, none, some (.aload_n 0, 1), some (.getfield 54, 3), none, none, some (.invokevirtual 275, 3), none, none],
  [some (.lstore_n 1, 1), some (.lload_n 1, 1), some (.ldc2_w 262, 3), none, none, some (.lcmp, 1), some (.ifCond .lt 6, 3), none, none, some (.bipush (-2), 2), none, some (.ireturn, 1), some (.lload_n 1, 1), some (.lneg, 1), some (.ldc2_w 311, 3), none],
  [none, some (.land, 1), some (.l2i, 1), some (.istore_n 3, 1), some (.aload_n 0, 1), some (.invokevirtual 313, 3), none, none, some (.iload_n 3, 1), some (.iconst (-1), 1), some (.ixor, 1), some (.iand, 1), some (.istore 4, 2), none, some (.aload_n 0, 1), some (.getfield 61, 3)],
  [none, none, some (.iload 4, 2), none, some (.i2l, 1), some (.invokevirtual 247, 3), none, none, some (.iload 4, 2), none, some (.invokestatic 193, 3), none, none, some (.ireturn, 1)]]
set_option maxRecDepth 100000 in
theorem zDX7_away : zdrows cX7_away 0 zJX7_away = true := by decide +kernel
def zJX7_bare : List (List (Option (Instr × Nat))) := [[some (.aload_n 0, 1), some (.iconst (-1), 1), some (.invokevirtual 268, 3), none, none, some (.aload_n 0, 1), some (.getfield 54, 3), none, none, some (.invokevirtual 275, 3), none, none, some (.pop2, 1), some (.bipush 9, 2), none, some (.istore_n 1, 1)],
  [some (.iconst 0, 1), some (.istore_n 2, 1), some (.iconst 1, 1), some (.istore_n 3, 1), some (.iload_n 3, 1), some (.aload_n 0, 1), some (.getfield 54, 3), none, none, some (.getfield 281, 3), none, none, some (.if_icmp .gt 35, 3), none, none, some (.aload_n 0, 1)],
  [some (.getfield 54, 3), none, none, some (.iload_n 3, 1), some (.invokevirtual 284, 3), none, none, some (.ifCond .ne 18, 3), none, none, some (.iload_n 3, 1), some (.invokestatic 193, 3), none, none, some (.iload_n 1, 1), some (.if_icmp .ge 10, 3)],
  [none, none, some (.iload_n 3, 1), some (.invokestatic 193, 3), none, none, some (.istore_n 1, 1), some (.iload_n 3, 1), some (.istore_n 2, 1), some (.iinc 3 1, 3), none, none, some (.goto (-40), 3), none, none, some (.iload_n 2, 1)],
  [some (.ifCond .ne 6, 3), none, none, some (.bipush (-2), 2), none, some (.ireturn, 1), some (.aload_n 0, 1), some (.getfield 61, 3), none, none, some (.iload_n 2, 1), some (.i2l, 1), some (.invokevirtual 247, 3), none, none, some (.iload_n 1, 1)],
  [some (.ireturn, 1)]]
set_option maxRecDepth 100000 in
theorem zDX7_bare : zdrows cX7_bare 0 zJX7_bare = true := by decide +kernel
def zJX7_between : List (List (Option (Instr × Nat))) := [[some (.iload_n 1, 1), some (.iload_n 2, 1), some (.iload_n 0, 1), some (.invokestatic 400, 3), none, none, some (.invokestatic 323, 3), none, none, some (.ireturn, 1)]]
set_option maxRecDepth 100000 in
theorem zDX7_between : zdrows cX7_between 0 zJX7_between = true := by decide +kernel
def zJX7_chance : List (List (Option (Instr × Nat))) := [[some (.iload_n 1, 1), some (.invokestatic 193, 3), none, none, some (.istore_n 3, 1), some (.lconst 0, 1), some (.lstore 4, 2), none, some (.iconst 0, 1), some (.istore 6, 2), none, some (.iload 6, 2), none, some (.iload_n 1, 1), some (.if_icmp .gt 60, 3), none],
  [none, some (.iload 6, 2), none, some (.iload_n 1, 1), some (.iconst (-1), 1), some (.ixor, 1), some (.iand, 1), some (.ifCond .ne 45, 3), none, none, some (.aload_n 0, 1), some (.getfield 54, 3), none, none, some (.iload 6, 2), none],
  [some (.invokevirtual 446, 3), none, none, some (.ifCond .ne 33, 3), none, none, some (.iload 6, 2), none, some (.invokestatic 193, 3), none, none, some (.istore 7, 2), none, some (.lload 4, 2), none, some (.bipush 10, 2)],
  [none, some (.iload_n 2, 1), some (.isub, 1), some (.iload 7, 2), none, some (.invokestatic 374, 3), none, none, some (.iload_n 2, 1), some (.iload_n 3, 1), some (.iload 7, 2), none, some (.isub, 1), some (.invokestatic 374, 3), none, none],
  [some (.lmul, 1), some (.ladd, 1), some (.lstore 4, 2), none, some (.iinc 6 1, 3), none, none, some (.goto (-60), 3), none, none, some (.lload 4, 2), none, some (.lreturn, 1)]]
set_option maxRecDepth 100000 in
theorem zDX7_chance : zdrows cX7_chance 0 zJX7_chance = true := by decide +kernel
def zJX7_changes : List (List (Option (Instr × Nat))) := [[some (.iconst 0, 1), some (.istore_n 1, 1), some (.iconst 0, 1), some (.istore_n 2, 1), some (.iconst 0, 1), some (.istore_n 3, 1), some (.iconst 1, 1), some (.istore 4, 2), none, some (.iload 4, 2), none, some (.bipush 8, 2), none, some (.if_icmp .ge 90, 3), none, none],
  [some (.aload_n 0, 1), some (.getfield 26, 3), none, none, some (.getfield 183, 3), none, none, some (.iload 4, 2), none, some (.iconst 1, 1), some (.isub, 1), some (.iaload, 1), some (.istore 5, 2), none, some (.aload_n 0, 1), some (.getfield 26, 3)],
  [none, none, some (.getfield 183, 3), none, none, some (.iload 4, 2), none, some (.iaload, 1), some (.istore 6, 2), none, some (.aload_n 0, 1), some (.getfield 19, 3), none, none, some (.iload 5, 2), none],
  [some (.iload 6, 2), none, some (.invokevirtual 328, 3), none, none, some (.ifCond .eq 44, 3), none, none, some (.aload_n 0, 1), some (.getfield 19, 3), none, none, some (.iload 5, 2), none, some (.iload 6, 2), none],
  [some (.invokevirtual 336, 3), none, none, some (.istore 7, 2), none, some (.iinc 1 1, 3), none, none, some (.iload_n 2, 1), some (.iload 7, 2), none, some (.aload_n 0, 1), some (.getfield 19, 3), none, none, some (.getfield 145, 3)],
  [none, none, some (.if_icmp .le 7, 3), none, none, some (.iconst 1, 1), some (.goto 4, 3), none, none, some (.iconst 0, 1), some (.iadd, 1), some (.istore_n 2, 1), some (.iload_n 3, 1), some (.iload 7, 2), none, some (.iadd, 1)],
  [some (.istore_n 3, 1), some (.iinc 4 1, 3), none, none, some (.goto (-91), 3), none, none, some (.aload_n 0, 1), some (.getfield 61, 3), none, none, some (.iload_n 2, 1), some (.i2l, 1), some (.iload_n 3, 1), some (.i2l, 1), some (.invokevirtual 208, 3)],
  [none, none, some (.iload_n 1, 1), some (.ireturn, 1)]]
set_option maxRecDepth 100000 in
theorem zDX7_changes : zdrows cX7_changes 0 zJX7_changes = true := by decide +kernel
def zJX7_count : List (List (Option (Instr × Nat))) := [[some (.iload_n 1, 1), some (.bipush 20, 2), none, some (.if_icmp .lt 22, 3), none, none, some (.iload_n 1, 1), some (.bipush 28, 2), none, some (.if_icmp .ge 16, 3), none, none, some (.aload_n 0, 1), some (.getfield 26, 3), none, none],
  [some (.getfield 183, 3), none, none, some (.iload_n 1, 1), some (.bipush 20, 2), none, some (.isub, 1), some (.iaload, 1), some (.ireturn, 1), some (.iload_n 1, 1), some (.tableswitch 155 0 11 #[62, 70, 78, 86, 94, 102, 110, 118, 126, 131, 139, 147], 62), none, none, none, none, none],
  [none, none, none, none, none, none, none, none, none, none, none, none, none, none, none, none],
  [none, none, none, none, none, none, none, none, none, none, none, none, none, none, none, none],
  [none, none, none, none, none, none, none, none, none, none, none, none, none, none, none, none],
  [none, none, none, none, none, none, none, none, some (.aload_n 0, 1), some (.getfield 19, 3), none, none, some (.getfield 141, 3), none, none, some (.ireturn, 1)],
  [some (.aload_n 0, 1), some (.getfield 19, 3), none, none, some (.getfield 145, 3), none, none, some (.ireturn, 1), some (.aload_n 0, 1), some (.getfield 19, 3), none, none, some (.getfield 154, 3), none, none, some (.ireturn, 1)],
  [some (.aload_n 0, 1), some (.getfield 26, 3), none, none, some (.getfield 190, 3), none, none, some (.ireturn, 1), some (.aload_n 0, 1), some (.getfield 26, 3), none, none, some (.getfield 391, 3), none, none, some (.ireturn, 1)],
  [some (.aload_n 0, 1), some (.getfield 26, 3), none, none, some (.getfield 198, 3), none, none, some (.ireturn, 1), some (.aload_n 0, 1), some (.getfield 26, 3), none, none, some (.getfield 201, 3), none, none, some (.ireturn, 1)],
  [some (.aload_n 0, 1), some (.getfield 26, 3), none, none, some (.invokevirtual 164, 3), none, none, some (.ireturn, 1), some (.aload_n 0, 1), some (.getfield 345, 3), none, none, some (.ireturn, 1), some (.aload_n 0, 1), some (.getfield 39, 3), none],
  [none, some (.getfield 394, 3), none, none, some (.ireturn, 1), some (.aload_n 0, 1), some (.getfield 61, 3), none, none, some (.getfield 397, 3), none, none, some (.ireturn, 1), some (.aload_n 0, 1), some (.getfield 10, 3), none],
  [none, some (.getfield 215, 3), none, none, some (.ireturn, 1), some (.bipush (-100), 2), none, some (.ireturn, 1)]]
set_option maxRecDepth 100000 in
theorem zDX7_count : zdrows cX7_count 0 zJX7_count = true := by decide +kernel
def zJX7_draw : List (List (Option (Instr × Nat))) := [[some (.aload_n 0, 1), some (.aload_n 0, 1), some (.getfield 385, 3), none, none, some (.ldc_w 426, 3), none, none, some (.imul, 1), some (.sipush 12345, 3), none, none, some (.iadd, 1), some (.putfield 385, 3), none, none],
  [some (.iload_n 1, 1), some (.ifCond .le 15, 3), none, none, some (.aload_n 0, 1), some (.getfield 385, 3), none, none, some (.bipush 16, 2), none, some (.iushr, 1), some (.iload_n 1, 1), some (.irem, 1), some (.goto 4, 3), none, none],
  [some (.iconst 0, 1), some (.ireturn, 1)]]
set_option maxRecDepth 100000 in
theorem zDX7_draw : zdrows cX7_draw 0 zJX7_draw = true := by decide +kernel
def zJX7_drawAct : List (List (Option (Instr × Nat))) := [[some (.aload_n 0, 1), some (.iconst 4, 1), some (.invokevirtual 427, 3), none, none, some (.istore_n 1, 1), some (.iload_n 1, 1), some (.iconst 2, 1), some (.if_icmp .ge 17, 3), none, none, some (.aload_n 0, 1), some (.getfield 19, 3), none, none, some (.aload_n 0, 1)],
  [some (.getfield 33, 3), none, none, some (.invokevirtual 241, 3), none, none, some (.goto 76, 3), none, none, some (.aload_n 0, 1), some (.getfield 19, 3), none, none, some (.getfield 154, 3), none, none],
  [some (.ifCond .le 29, 3), none, none, some (.iload_n 1, 1), some (.iconst 2, 1), some (.if_icmp .ne 24, 3), none, none, some (.aload_n 0, 1), some (.getfield 33, 3), none, none, some (.aload_n 0, 1), some (.aload_n 0, 1), some (.getfield 19, 3), none],
  [none, some (.getfield 154, 3), none, none, some (.invokevirtual 427, 3), none, none, some (.invokevirtual 186, 3), none, none, some (.goto 40, 3), none, none, some (.aload_n 0, 1), some (.getfield 19, 3), none],
  [none, some (.getfield 154, 3), none, none, some (.ifCond .le 30, 3), none, none, some (.aload_n 0, 1), some (.bipush 8, 2), none, some (.invokevirtual 427, 3), none, none, some (.istore_n 2, 1), some (.aload_n 0, 1), some (.getfield 33, 3)],
  [none, none, some (.getfield 183, 3), none, none, some (.iload_n 2, 1), some (.aload_n 0, 1), some (.aload_n 0, 1), some (.getfield 19, 3), none, none, some (.getfield 154, 3), none, none, some (.invokevirtual 427, 3), none],
  [none, some (.iastore, 1), some (.return_, 1)]]
set_option maxRecDepth 100000 in
theorem zDX7_drawAct : zdrows cX7_drawAct 0 zJX7_drawAct = true := by decide +kernel
def zJX7_easiest : List (List (Option (Instr × Nat))) := [[some (.aload_n 0, 1), some (.iconst (-1), 1), some (.invokevirtual 258, 3), none, none, some (.lstore_n 1, 1), some (.lload_n 1, 1), some (.ldc2_w 262, 3), none, none, some (.lcmp, 1), some (.ifCond .lt 8, 3), none, none, some (.bipush (-2), 2), none],
  [some (.goto 8, 3), none, none, some (.aload_n 0, 1), some (.lload_n 1, 1), some (.invokevirtual 264, 3), none, none, some (.ireturn, 1)]]
set_option maxRecDepth 100000 in
theorem zDX7_easiest : zdrows cX7_easiest 0 zJX7_easiest = true := by decide +kernel
def zJX7_easiestWithout : List (List (Option (Instr × Nat))) := [[some (.aload_n 0, 1), some (.iload_n 1, 1), some (.invokevirtual 268, 3), none, none, some (.aload_n 0, 1), some (.invokevirtual 443, 3), none, none, some (.aload_n 0, 1), some (.getfield 54, 3), none, none, some (.invokevirtual 275, 3), none, none],
  [some (.lreturn, 1)]]
set_option maxRecDepth 100000 in
theorem zDX7_easiestWithout : zdrows cX7_easiestWithout 0 zJX7_easiestWithout = true := by decide +kernel
def zJX7_end : List (List (Option (Instr × Nat))) := [[some (.aload_n 0, 1), some (.getfield 10, 3), none, none, some (.iload_n 1, 1), some (.invokevirtual 86, 3), none, none, some (.ireturn, 1)]]
set_option maxRecDepth 100000 in
theorem zDX7_end : zdrows cX7_end 0 zJX7_end = true := by decide +kernel
def zJX7_entry : List (List (Option (Instr × Nat))) := [[some (.iload_n 0, 1), some (.ifCond .ne 6, 3), none, none, some (.iload_n 1, 1), some (.i2b, 1), some (.ireturn, 1), some (.iload_n 0, 1), some (.iconst 1, 1), some (.if_icmp .ne 8, 3), none, none, some (.iload_n 1, 1), some (.i2s, 1), some (.goto 4, 3), none],
  [none, some (.iload_n 1, 1), some (.ireturn, 1)]]
set_option maxRecDepth 100000 in
theorem zDX7_entry : zdrows cX7_entry 0 zJX7_entry = true := by decide +kernel
def zJX7_fairest : List (List (Option (Instr × Nat))) := [[some (.aload_n 0, 1), some (.iconst (-1), 1), some (.invokevirtual 268, 3), none, none, some (.iconst 0, 1), some (.istore_n 1, 1), some (.iload_n 1, 1), some (.aload_n 0, 1), some (.getfield 19, 3), none, none, some (.getfield 154, 3), none, none, some (.if_icmp .ge 44, 3)],
  [none, none, some (.iconst 0, 1), some (.istore_n 2, 1), some (.iload_n 2, 1), some (.aload_n 0, 1), some (.getfield 19, 3), none, none, some (.getfield 141, 3), none, none, some (.if_icmp .ge 25, 3), none, none, some (.aload_n 0, 1)],
  [some (.getfield 54, 3), none, none, some (.iload_n 1, 1), some (.iload_n 2, 1), some (.aload_n 0, 1), some (.iload_n 1, 1), some (.iload_n 2, 1), some (.invokevirtual 137, 3), none, none, some (.i2l, 1), some (.invokevirtual 300, 3), none, none, some (.iinc 2 1, 3)],
  [none, none, some (.goto (-30), 3), none, none, some (.iinc 1 1, 3), none, none, some (.goto (-49), 3), none, none, some (.aload_n 0, 1), some (.getfield 54, 3), none, none, some (.invokevirtual 304, 3)],
  [none, none, some (.lstore_n 1, 1), some (.lload_n 1, 1), some (.ldc2_w 262, 3), none, none, some (.lcmp, 1), some (.ifCond .lt 6, 3), none, none, some (.bipush (-2), 2), none, some (.ireturn, 1), some (.aload_n 0, 1), some (.getfield 54, 3)],
  [none, none, some (.lload_n 1, 1), some (.putfield 307, 3), none, none, some (.aload_n 0, 1), some (.getfield 61, 3), none, none, some (.aload_n 0, 1), some (.getfield 54, 3), none, none, some (.invokevirtual 275, 3), none],
  [none, some (.invokevirtual 247, 3), none, none, some (.lload_n 1, 1), some (.l2i, 1), some (.ireturn, 1)]]
set_option maxRecDepth 100000 in
theorem zDX7_fairest : zdrows cX7_fairest 0 zJX7_fairest = true := by decide +kernel
def zJX7_fewest : List (List (Option (Instr × Nat))) := [[some (.aload_n 0, 1), some (.iconst (-1), 1), some (.invokevirtual 268, 3), none, none, some (.iconst 0, 1), some (.istore_n 1, 1), some (.iload_n 1, 1), some (.aload_n 0, 1), some (.getfield 19, 3), none, none, some (.getfield 154, 3), none, none, some (.if_icmp .ge 26, 3)],
  [none, none, some (.aload_n 0, 1), some (.getfield 54, 3), none, none, some (.getfield 271, 3), none, none, some (.iload_n 1, 1), some (.sipush 256, 3), none, none, some (.iconst 1, 1), some (.iload_n 1, 1), some (.ishl, 1)],
  [some (.iadd, 1), some (.i2l, 1), some (.lastore, 1), some (.iinc 1 1, 3), none, none, some (.goto (-31), 3), none, none, some (.aload_n 0, 1), some (.getfield 54, 3), none, none, some (.invokevirtual 275, 3), none, none],
  [some (.lstore_n 1, 1), some (.lload_n 1, 1), some (.ldc2_w 262, 3), none, none, some (.lcmp, 1), some (.ifCond .lt 6, 3), none, none, some (.bipush (-2), 2), none, some (.ireturn, 1), some (.aload_n 0, 1), some (.getfield 61, 3), none, none],
  [some (.lload_n 1, 1), some (.ldc2_w 279, 3), none, none, some (.land, 1), some (.invokevirtual 247, 3), none, none, some (.lload_n 1, 1), some (.bipush 8, 2), none, some (.lshr, 1), some (.l2i, 1), some (.ireturn, 1)]]
set_option maxRecDepth 100000 in
theorem zDX7_fewest : zdrows cX7_fewest 0 zJX7_fewest = true := by decide +kernel
def zJX7_first : List (List (Option (Instr × Nat))) := [[some (.iload_n 1, 1), some (.iconst 1, 1), some (.if_icmp .lt 9, 3), none, none, some (.iload_n 1, 1), some (.bipush 60, 2), none, some (.if_icmp .le 5, 3), none, none, some (.iconst (-1), 1), some (.ireturn, 1), some (.aload_n 0, 1), some (.getfield 33, 3), none],
  [none, some (.aload_n 0, 1), some (.getfield 26, 3), none, none, some (.invokevirtual 170, 3), none, none, some (.iconst 0, 1), some (.istore_n 2, 1), some (.iload_n 2, 1), some (.iload_n 1, 1), some (.if_icmp .ge 50, 3), none, none, some (.aload_n 0, 1)],
  [some (.getfield 19, 3), none, none, some (.aload_n 0, 1), some (.getfield 33, 3), none, none, some (.invokevirtual 241, 3), none, none, some (.aload_n 0, 1), some (.getfield 19, 3), none, none, some (.getfield 235, 3), none],
  [none, some (.ifCond .eq 23, 3), none, none, some (.aload_n 0, 1), some (.getfield 61, 3), none, none, some (.aload_n 0, 1), some (.getfield 19, 3), none, none, some (.getfield 235, 3), none, none, some (.invokestatic 244, 3)],
  [none, none, some (.i2l, 1), some (.invokevirtual 247, 3), none, none, some (.iload_n 2, 1), some (.ireturn, 1), some (.iinc 2 1, 3), none, none, some (.goto (-49), 3), none, none, some (.bipush (-2), 2), none],
  [some (.ireturn, 1)]]
set_option maxRecDepth 100000 in
theorem zDX7_first : zdrows cX7_first 0 zJX7_first = true := by decide +kernel
def zJX7_fits : List (List (Option (Instr × Nat))) := [[some (.aload_n 0, 1), some (.invokevirtual 348, 3), none, none, some (.aload_n 0, 1), some (.invokevirtual 287, 3), none, none, some (.ireturn, 1)]]
set_option maxRecDepth 100000 in
theorem zDX7_fits : zdrows cX7_fits 0 zJX7_fits = true := by decide +kernel
def zJX7_forget : List (List (Option (Instr × Nat))) := [[some (.aload_n 0, 1), some (.getfield 345, 3), none, none, some (.istore_n 1, 1), some (.aload_n 0, 1), some (.iconst 0, 1), some (.putfield 345, 3), none, none, some (.iload_n 1, 1), some (.ireturn, 1)]]
set_option maxRecDepth 100000 in
theorem zDX7_forget : zdrows cX7_forget 0 zJX7_forget = true := by decide +kernel
def zJX7_forgetKept : List (List (Option (Instr × Nat))) := [[some (.iconst 0, 1), some (.istore_n 1, 1), some (.iload_n 1, 1), some (.iconst 2, 1), some (.if_icmp .ge 16, 3), none, none, some (.aload_n 0, 1), some (.getfield 47, 3), none, none, some (.iload_n 1, 1), some (.iconst 0, 1), some (.bastore, 1), some (.iinc 1 1, 3), none],
  [none, some (.goto (-15), 3), none, none, some (.return_, 1)]]
set_option maxRecDepth 100000 in
theorem zDX7_forgetKept : zdrows cX7_forgetKept 0 zJX7_forgetKept = true := by decide +kernel
def zJX7_found : List (List (Option (Instr × Nat))) := [[some (.iload_n 1, 1), some (.invokestatic 134, 3), none, none, some (.ifCond .eq 32, 3), none, none, some (.aload_n 0, 1), some (.getfield 19, 3), none, none, some (.iload_n 2, 1), some (.invokevirtual 110, 3), none, none, some (.ifCond .eq 21, 3)],
  [none, none, some (.iload_n 3, 1), some (.ifCond .lt 17, 3), none, none, some (.iload_n 3, 1), some (.iconst 1, 1), some (.if_icmp .gt 12, 3), none, none, some (.aload_n 0, 1), some (.getfield 345, 3), none, none, some (.bipush 12, 2)],
  [none, some (.if_icmp .lt 5, 3), none, none, some (.iconst (-1), 1), some (.ireturn, 1), some (.aload_n 0, 1), some (.getfield 65, 3), none, none, some (.aload_n 0, 1), some (.getfield 345, 3), none, none, some (.iload_n 1, 1), some (.iastore, 1)],
  [some (.aload_n 0, 1), some (.getfield 69, 3), none, none, some (.aload_n 0, 1), some (.getfield 345, 3), none, none, some (.iload_n 2, 1), some (.iastore, 1), some (.aload_n 0, 1), some (.getfield 72, 3), none, none, some (.aload_n 0, 1), some (.getfield 345, 3)],
  [none, none, some (.iload_n 3, 1), some (.iastore, 1), some (.aload_n 0, 1), some (.dup, 1), some (.getfield 345, 3), none, none, some (.iconst 1, 1), some (.iadd, 1), some (.putfield 345, 3), none, none, some (.aload_n 0, 1), some (.getfield 345, 3)],
  [none, none, some (.ireturn, 1)]]
set_option maxRecDepth 100000 in
theorem zDX7_found : zdrows cX7_found 0 zJX7_found = true := by decide +kernel
def zJX7_gaps : List (List (Option (Instr × Nat))) := [[some (.aload_n 0, 1), some (.getfield 19, 3), none, none, some (.aload_n 0, 1), some (.getfield 26, 3), none, none, some (.invokevirtual 232, 3), none, none, some (.aload_n 0, 1), some (.getfield 61, 3), none, none, some (.aload_n 0, 1)],
  [some (.getfield 19, 3), none, none, some (.getfield 235, 3), none, none, some (.invokestatic 193, 3), none, none, some (.i2l, 1), some (.aload_n 0, 1), some (.getfield 19, 3), none, none, some (.getfield 238, 3), none],
  [none, some (.i2l, 1), some (.invokevirtual 208, 3), none, none, some (.aload_n 0, 1), some (.getfield 19, 3), none, none, some (.getfield 235, 3), none, none, some (.ireturn, 1)]]
set_option maxRecDepth 100000 in
theorem zDX7_gaps : zdrows cX7_gaps 0 zJX7_gaps = true := by decide +kernel
def zJX7_gapsByTrade : List (List (Option (Instr × Nat))) := [[some (.aload_n 0, 1), some (.getfield 33, 3), none, none, some (.getfield 183, 3), none, none, some (.iload_n 1, 1), some (.iaload, 1), some (.istore_n 3, 1), some (.aload_n 0, 1), some (.getfield 33, 3), none, none, some (.getfield 183, 3), none],
  [none, some (.iload_n 2, 1), some (.iaload, 1), some (.istore 4, 2), none, some (.aload_n 0, 1), some (.getfield 33, 3), none, none, some (.getfield 183, 3), none, none, some (.iload_n 1, 1), some (.iload 4, 2), none, some (.iastore, 1)],
  [some (.aload_n 0, 1), some (.getfield 33, 3), none, none, some (.getfield 183, 3), none, none, some (.iload_n 2, 1), some (.iload_n 3, 1), some (.iastore, 1), some (.aload_n 0, 1), some (.getfield 19, 3), none, none, some (.aload_n 0, 1), some (.getfield 33, 3)],
  [none, none, some (.invokevirtual 232, 3), none, none, some (.aload_n 0, 1), some (.getfield 33, 3), none, none, some (.getfield 183, 3), none, none, some (.iload_n 1, 1), some (.iload_n 3, 1), some (.iastore, 1), some (.aload_n 0, 1)],
  [some (.getfield 33, 3), none, none, some (.getfield 183, 3), none, none, some (.iload_n 2, 1), some (.iload 4, 2), none, some (.iastore, 1), some (.aload_n 0, 1), some (.getfield 19, 3), none, none, some (.getfield 235, 3), none],
  [none, some (.invokestatic 193, 3), none, none, some (.ireturn, 1)]]
set_option maxRecDepth 100000 in
theorem zDX7_gapsByTrade : zdrows cX7_gapsByTrade 0 zJX7_gapsByTrade = true := by decide +kernel
def zJX7_give : List (List (Option (Instr × Nat))) := [[some (.iload_n 1, 1), some (.invokestatic 134, 3), none, none, some (.ifCond .eq 14, 3), none, none, some (.aload_n 0, 1), some (.getfield 19, 3), none, none, some (.iload_n 2, 1), some (.invokevirtual 180, 3), none, none, some (.ifCond .ne 6, 3)],
  [none, none, some (.bipush (-2), 2), none, some (.ireturn, 1), some (.aload_n 0, 1), some (.getfield 39, 3), none, none, some (.aload_n 0, 1), some (.getfield 26, 3), none, none, some (.invokevirtual 177, 3), none, none],
  [some (.aload_n 0, 1), some (.getfield 26, 3), none, none, some (.getfield 183, 3), none, none, some (.iload_n 1, 1), some (.iaload, 1), some (.istore_n 3, 1), some (.aload_n 0, 1), some (.getfield 26, 3), none, none, some (.getfield 183, 3), none],
  [none, some (.iload_n 1, 1), some (.iload_n 2, 1), some (.iastore, 1), some (.iload_n 3, 1), some (.ireturn, 1)]]
set_option maxRecDepth 100000 in
theorem zDX7_give : zdrows cX7_give 0 zJX7_give = true := by decide +kernel
def zJX7_greatestShared : List (List (Option (Instr × Nat))) := [[some (.iconst 0, 1), some (.istore 4, 2), none, some (.iload 4, 2), none, some (.sipush 128, 3), none, none, some (.if_icmp .ge 25, 3), none, none, some (.lload_n 2, 1), some (.lconst 0, 1), some (.lcmp, 1), some (.ifCond .eq 19, 3), none],
  [none, some (.lload_n 0, 1), some (.lload_n 2, 1), some (.lrem, 1), some (.lstore 5, 2), none, some (.lload_n 2, 1), some (.lstore_n 0, 1), some (.lload 5, 2), none, some (.lstore_n 2, 1), some (.iinc 4 1, 3), none, none, some (.goto (-27), 3), none],
  [none, some (.lload_n 0, 1), some (.lreturn, 1)]]
set_option maxRecDepth 100000 in
theorem zDX7_greatestShared : zdrows cX7_greatestShared 0 zJX7_greatestShared = true := by decide +kernel
def zJX7_hard : List (List (Option (Instr × Nat))) := [[some (.aload_n 0, 1), some (.getfield 19, 3), none, none, some (.iload_n 1, 1), some (.invokevirtual 110, 3), none, none, some (.ifCond .eq 10, 3), none, none, some (.iload_n 2, 1), some (.invokestatic 134, 3), none, none, some (.ifCond .ne 5, 3)],
  [none, none, some (.iconst (-1), 1), some (.ireturn, 1), some (.aload_n 0, 1), some (.iload_n 1, 1), some (.iload_n 2, 1), some (.invokevirtual 137, 3), none, none, some (.ireturn, 1)]]
set_option maxRecDepth 100000 in
theorem zDX7_hard : zdrows cX7_hard 0 zJX7_hard = true := by decide +kernel
def zJX7_hardNow : List (List (Option (Instr × Nat))) := [[some (.aload_n 0, 1), some (.getfield 19, 3), none, none, some (.aload_n 0, 1), some (.getfield 19, 3), none, none, some (.getfield 107, 3), none, none, some (.aload_n 0, 1), some (.getfield 26, 3), none, none, some (.iload_n 1, 1)],
  [some (.iload_n 2, 1), some (.invokevirtual 407, 3), none, none, some (.ireturn, 1)]]
set_option maxRecDepth 100000 in
theorem zDX7_hardNow : zdrows cX7_hardNow 0 zJX7_hardNow = true := by decide +kernel
def zJX7_hardOfRota : List (List (Option (Instr × Nat))) := [[some (.iconst 0, 1), some (.istore_n 2, 1), some (.iconst 0, 1), some (.istore_n 3, 1), some (.iload_n 3, 1), some (.aload_n 0, 1), some (.getfield 19, 3), none, none, some (.getfield 141, 3), none, none, some (.if_icmp .ge 54, 3), none, none, some (.aload_n 0, 1)],
  [some (.getfield 26, 3), none, none, some (.getfield 183, 3), none, none, some (.iload_n 3, 1), some (.iaload, 1), some (.istore 4, 2), none, some (.iload_n 2, 1), some (.aload_n 0, 1), some (.getfield 19, 3), none, none, some (.iload 4, 2)],
  [none, some (.invokevirtual 110, 3), none, none, some (.ifCond .eq 21, 3), none, none, some (.aload_n 0, 1), some (.getfield 19, 3), none, none, some (.aload_n 1, 1), some (.aload_n 0, 1), some (.getfield 26, 3), none, none],
  [some (.iload 4, 2), none, some (.iload_n 3, 1), some (.invokevirtual 407, 3), none, none, some (.goto 4, 3), none, none, some (.iconst 0, 1), some (.iadd, 1), some (.istore_n 2, 1), some (.iinc 3 1, 3), none, none, some (.goto (-59), 3)],
  [none, none, some (.iload_n 2, 1), some (.ireturn, 1)]]
set_option maxRecDepth 100000 in
theorem zDX7_hardOfRota : zdrows cX7_hardOfRota 0 zJX7_hardOfRota = true := by decide +kernel
