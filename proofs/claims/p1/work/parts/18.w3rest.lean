set_option maxRecDepth 100000 in
theorem zlw_43_o0 : zrunL zov0 (zsc (.negSucc 2147483647, .negSucc 0) zall) (.ofNat 43, .ofNat 43) = true := by decide +kernel
set_option maxRecDepth 100000 in
theorem zlw_43_o1 : zrunL zov0 (zsc (.ofNat 10, .ofNat 2147483647) zall) (.ofNat 43, .ofNat 43) = true := by decide +kernel
set_option maxRecDepth 100000 in
theorem zlw_43_o2 : zrunL zov0 (zsc (.ofNat 0, .ofNat 9) (.negSucc 2147483647, .negSucc 0)) (.ofNat 43, .ofNat 43) = true := by decide +kernel
set_option maxRecDepth 100000 in
theorem zlw_43_o3 : zrunL zov0 (zsc (.ofNat 0, .ofNat 9) (.ofNat 10, .ofNat 2147483647)) (.ofNat 43, .ofNat 43) = true := by decide +kernel
set_option maxRecDepth 100000 in
theorem zlw_43_0 : ((List.range 10).all fun w => zrunL (zovO krest7_ov krest8_ov) (zsc (.ofNat 0, .ofNat 0) (.ofNat w, .ofNat w)) (.ofNat 43, .ofNat 43)) = true := by decide +kernel
set_option maxRecDepth 100000 in
theorem zlw_43_1 : ((List.range 10).all fun w => zrunL (zovO krest7_ov krest8_ov) (zsc (.ofNat 1, .ofNat 1) (.ofNat w, .ofNat w)) (.ofNat 43, .ofNat 43)) = true := by decide +kernel
set_option maxRecDepth 100000 in
theorem zlw_43_2 : ((List.range 10).all fun w => zrunL (zovO krest7_ov krest8_ov) (zsc (.ofNat 2, .ofNat 2) (.ofNat w, .ofNat w)) (.ofNat 43, .ofNat 43)) = true := by decide +kernel
set_option maxRecDepth 100000 in
theorem zlw_43_3 : ((List.range 10).all fun w => zrunL (zovO krest7_ov krest8_ov) (zsc (.ofNat 3, .ofNat 3) (.ofNat w, .ofNat w)) (.ofNat 43, .ofNat 43)) = true := by decide +kernel
set_option maxRecDepth 100000 in
theorem zlw_43_4 : ((List.range 10).all fun w => zrunL (zovO krest7_ov krest8_ov) (zsc (.ofNat 4, .ofNat 4) (.ofNat w, .ofNat w)) (.ofNat 43, .ofNat 43)) = true := by decide +kernel
set_option maxRecDepth 100000 in
theorem zlw_43_5 : ((List.range 10).all fun w => zrunL (zovO krest7_ov krest8_ov) (zsc (.ofNat 5, .ofNat 5) (.ofNat w, .ofNat w)) (.ofNat 43, .ofNat 43)) = true := by decide +kernel
set_option maxRecDepth 100000 in
theorem zlw_43_6 : ((List.range 10).all fun w => zrunL (zovO krest7_ov krest8_ov) (zsc (.ofNat 6, .ofNat 6) (.ofNat w, .ofNat w)) (.ofNat 43, .ofNat 43)) = true := by decide +kernel
set_option maxRecDepth 100000 in
theorem zlw_43_7 : ((List.range 10).all fun w => zrunL (zovO krest7_ov krest8_ov) (zsc (.ofNat 7, .ofNat 7) (.ofNat w, .ofNat w)) (.ofNat 43, .ofNat 43)) = true := by decide +kernel
set_option maxRecDepth 100000 in
theorem zlw_43_8 : ((List.range 10).all fun w => zrunL (zovO krest7_ov krest8_ov) (zsc (.ofNat 8, .ofNat 8) (.ofNat w, .ofNat w)) (.ofNat 43, .ofNat 43)) = true := by decide +kernel
set_option maxRecDepth 100000 in
theorem zlw_43_9 : ((List.range 10).all fun w => zrunL (zovO krest7_ov krest8_ov) (zsc (.ofNat 9, .ofNat 9) (.ofNat w, .ofNat w)) (.ofNat 43, .ofNat 43)) = true := by decide +kernel
theorem zcase_43 {p : Program} {l : Launch} {e : Env} {s : State} {m : MethodId} {below : List Frame} {meth : Method} {c : Code} {b : Nat} {xs : Nat → Int32} {D : va_G} {tys : List (ClassId × FieldType)} {adr : Nat → Nat} {nm : String} (E : zEnv tys) (C : ∀ o : zO, o.1 = b → o.2.1 = adr → zCx p room_1 s m #[Value.ref b] meth c D vwCl tys s.heap.size (zXX o s.heap.size) zTs RL cL_law 8 nm) (hX : va_X b 5 xs s s.heap) (hbl : b < s.heap.size) (hr : meth.sig.returnType = ret) (hlocks : meth.locks = false) {ls : Array Slot} (hl : lv_has ls 8 [(0, .ref b)]) (hj : zmi (.ofNat 43, .ofNat 43) (xs 0 &&& 63)) : W p l e room_1 s m #[Value.ref b] below meth c s.heap [] 0 0 (lw_Z below #[Value.ref b] s) (F0 m 0 ls []) := by
  have hov : zOvOk l D vwCl tys (b, adr, zfn xs 0) s.heap.size (zXX (b, adr, zfn xs 0) s.heap.size) zTs zprog (zovO krest7_ov krest8_ov) := zovO_ok (krest7_ok (o := (b, adr, zfn xs 0)) (f := zfn xs 0) E) (krest8_ok (o := (b, adr, zfn xs 0)) (f := zfn xs 0) E)
  have wide : ∀ v : Nat, v < 10 → zmi (.ofNat v, .ofNat v) (xs 1) → zmi (.ofNat 0, .ofNat 9) (xs 1) := by
    intro v hv h
    obtain ⟨a1, a2⟩ := h
    have a1 : (v : Int) ≤ (xs 1).toInt := a1
    have a2 : (xs 1).toInt ≤ (v : Int) := a2
    exact ⟨by show (0 : Int) ≤ _; omega, by show _ ≤ (9 : Int); omega⟩
  obtain ⟨q2, hq2, h2⟩ := zcov_ok (x := xs 2) (l := [(.negSucc 2147483647, .negSucc 0), (.ofNat 0, .ofNat 0), (.ofNat 1, .ofNat 1), (.ofNat 2, .ofNat 2), (.ofNat 3, .ofNat 3), (.ofNat 4, .ofNat 4), (.ofNat 5, .ofNat 5), (.ofNat 6, .ofNat 6), (.ofNat 7, .ofNat 7), (.ofNat 8, .ofNat 8), (.ofNat 9, .ofNat 9), (.ofNat 10, .ofNat 2147483647)]) (lo := -2147483648) (by decide +kernel) (z32 _).1
  have inner : ∀ v : Nat, v < 10 → ((List.range 10).all fun w => zrunL (zovO krest7_ov krest8_ov) (zsc (.ofNat v, .ofNat v) (.ofNat w, .ofNat w)) (.ofNat 43, .ofNat 43)) = true → zmi (.ofNat v, .ofNat v) (xs 1) → W p l e room_1 s m #[Value.ref b] below meth c s.heap [] 0 0 (lw_Z below #[Value.ref b] s) (F0 m 0 ls []) := by
    intro v hv hrun h1
    have hrun := List.all_eq_true.mp hrun
    simp only [List.mem_cons, List.not_mem_nil, or_false] at hq2
    rcases hq2 with rfl | rfl | rfl | rfl | rfl | rfl | rfl | rfl | rfl | rfl | rfl | rfl
    · exact zfiveW E C hX hbl hr hlocks hl hj (wide v hv h1) h2 (f := zfn xs 0) rfl rfl rfl zov0_ok zlw_43_o2
    · exact zfiveW E C hX hbl hr hlocks hl hj h1 h2 (f := zfn xs 0) rfl rfl rfl hov (hrun 0 (by decide))
    · exact zfiveW E C hX hbl hr hlocks hl hj h1 h2 (f := zfn xs 0) rfl rfl rfl hov (hrun 1 (by decide))
    · exact zfiveW E C hX hbl hr hlocks hl hj h1 h2 (f := zfn xs 0) rfl rfl rfl hov (hrun 2 (by decide))
    · exact zfiveW E C hX hbl hr hlocks hl hj h1 h2 (f := zfn xs 0) rfl rfl rfl hov (hrun 3 (by decide))
    · exact zfiveW E C hX hbl hr hlocks hl hj h1 h2 (f := zfn xs 0) rfl rfl rfl hov (hrun 4 (by decide))
    · exact zfiveW E C hX hbl hr hlocks hl hj h1 h2 (f := zfn xs 0) rfl rfl rfl hov (hrun 5 (by decide))
    · exact zfiveW E C hX hbl hr hlocks hl hj h1 h2 (f := zfn xs 0) rfl rfl rfl hov (hrun 6 (by decide))
    · exact zfiveW E C hX hbl hr hlocks hl hj h1 h2 (f := zfn xs 0) rfl rfl rfl hov (hrun 7 (by decide))
    · exact zfiveW E C hX hbl hr hlocks hl hj h1 h2 (f := zfn xs 0) rfl rfl rfl hov (hrun 8 (by decide))
    · exact zfiveW E C hX hbl hr hlocks hl hj h1 h2 (f := zfn xs 0) rfl rfl rfl hov (hrun 9 (by decide))
    · exact zfiveW E C hX hbl hr hlocks hl hj (wide v hv h1) h2 (f := zfn xs 0) rfl rfl rfl zov0_ok zlw_43_o3
  obtain ⟨q, hq, h1⟩ := zcov_ok (x := xs 1) (l := [(.negSucc 2147483647, .negSucc 0), (.ofNat 0, .ofNat 0), (.ofNat 1, .ofNat 1), (.ofNat 2, .ofNat 2), (.ofNat 3, .ofNat 3), (.ofNat 4, .ofNat 4), (.ofNat 5, .ofNat 5), (.ofNat 6, .ofNat 6), (.ofNat 7, .ofNat 7), (.ofNat 8, .ofNat 8), (.ofNat 9, .ofNat 9), (.ofNat 10, .ofNat 2147483647)]) (lo := -2147483648) (by decide +kernel) (z32 _).1
  simp only [List.mem_cons, List.not_mem_nil, or_false] at hq
  rcases hq with rfl | rfl | rfl | rfl | rfl | rfl | rfl | rfl | rfl | rfl | rfl | rfl
  · exact zfiveW E C hX hbl hr hlocks hl hj h1 (b2 := zall) (z32 _) (f := zfn xs 0) rfl rfl rfl zov0_ok zlw_43_o0
  · exact inner 0 (by decide) zlw_43_0 h1
  · exact inner 1 (by decide) zlw_43_1 h1
  · exact inner 2 (by decide) zlw_43_2 h1
  · exact inner 3 (by decide) zlw_43_3 h1
  · exact inner 4 (by decide) zlw_43_4 h1
  · exact inner 5 (by decide) zlw_43_5 h1
  · exact inner 6 (by decide) zlw_43_6 h1
  · exact inner 7 (by decide) zlw_43_7 h1
  · exact inner 8 (by decide) zlw_43_8 h1
  · exact inner 9 (by decide) zlw_43_9 h1
  · exact zfiveW E C hX hbl hr hlocks hl hj h1 (b2 := zall) (z32 _) (f := zfn xs 0) rfl rfl rfl zov0_ok zlw_43_o1
