set_option maxRecDepth 100000 in
theorem zqpre : zpref zqJ zyI = true := by decide +kernel
set_option maxRecDepth 100000 in
theorem zqg_4 : zbodyG zyds zqJ zyI (.ofNat 4, .ofNat 5) ztopI ztopI = true := by decide +kernel
set_option maxRecDepth 100000 in
theorem zqg_15 : zbodyG zyds zqJ zyI (.ofNat 15, .ofNat 23) ztopI ztopI = true := by decide +kernel
set_option maxRecDepth 100000 in
theorem zqg_25 : zbodyG zyds zqJ zyI (.ofNat 25, .ofNat 43) ztopI ztopI = true := by decide +kernel
set_option maxRecDepth 100000 in
theorem zqg_45 : zbodyG zyds zqJ zyI (.ofNat 45, .ofNat 45) ztopI ztopI = true := by decide +kernel
set_option maxRecDepth 100000 in
theorem zqg_48 : zbodyG zyds zqJ zyI (.ofNat 48, .ofNat 63) ztopI ztopI = true := by decide +kernel
def zqjs : List zI := [(.ofNat 0, .ofNat 0), (.ofNat 1, .ofNat 1), (.ofNat 2, .ofNat 2), (.ofNat 3, .ofNat 3), (.ofNat 4, .ofNat 5), (.ofNat 6, .ofNat 6), (.ofNat 7, .ofNat 7), (.ofNat 8, .ofNat 8), (.ofNat 9, .ofNat 9), (.ofNat 10, .ofNat 10), (.ofNat 11, .ofNat 11), (.ofNat 12, .ofNat 12), (.ofNat 13, .ofNat 13), (.ofNat 14, .ofNat 14), (.ofNat 15, .ofNat 23), (.ofNat 24, .ofNat 24), (.ofNat 25, .ofNat 43), (.ofNat 44, .ofNat 44), (.ofNat 45, .ofNat 45), (.ofNat 46, .ofNat 46), (.ofNat 47, .ofNat 47), (.ofNat 48, .ofNat 63)]
theorem zqj_ok : zcov64 0 zqjs = true := by decide +kernel
theorem zqb_ok : ∀ j ∈ zqjs, zcov (-2147483648) [ztopI] = true := by decide +kernel
section ZALLQ
variable {p : Program} {l : Launch} {e : Env} {s : State} {m : MethodId} {below : List Frame} {meth : Method} {c0 : Code} {b : Nat} {D : va_G} {tys : List (ClassId × FieldType)} {o : zO} {z : Nat} {nm : String} {L : Nat} {xs : Nat → Int32}
theorem zqSp (E : zEnv tys) (hov : ∀ g, zOwOk l D vwCl tys (zwith o g) z (zXX o z) zTs zprog2 (zovW zyds)) (C : zCx p room_1 s m #[Value.ref b] meth c0 D vwCl tys z (zXX o z) zTs RL cL_law 8 nm) (hX : va_X o.1 L xs s s.heap) (hbl : o.1 < s.heap.size) (hbA : ¬ zA z o.1) (hL : L ≤ 2560) (hst : l.stackTraces = false) (hTh : zTh z s s.heap) : ∀ j ∈ zqjs, ∀ b1 ∈ ([ztopI] : List zI), ∀ b2 ∈ ([ztopI] : List zI), zSpec p l e s m b below meth c0 D tys o z L xs zyI zqJ j b1 b2 := by
  intro j hj b1 hb1 b2 hb2
  have e1 := List.mem_singleton.mp hb1
  have e2 := List.mem_singleton.mp hb2
  subst e1
  subst e2
  simp only [zqjs, List.mem_cons, List.not_mem_nil, or_false] at hj
  rcases hj with rfl | rfl | rfl | rfl | rfl | rfl | rfl | rfl | rfl | rfl | rfl | rfl | rfl | rfl | rfl | rfl | rfl | rfl | rfl | rfl | rfl | rfl
  · exact zsx_sign E C hX hbl hbA hL
  · exact zsx_end E C hX hbl hbA hL
  · exact zsx_riders E C hX hbl hbA hL
  · exact zsx_rule E C hX hbl hbA hL
  · exact zspG E hov C hX hbl hbA hL hst hTh zqJ_ok zqg_4
  · exact zsx_set E C hX hbl hbA hL
  · exact zsx_sheet E C hX hbl hbA hL
  · exact zsx_rota E C hX hbl hbA hL
  · exact zsx_give E C hX hbl hbA hL
  · exact zsx_ill E C hX hbl hbA hL
  · exact zsx_nights E C hX hbl hbA hL
  · exact zsx_year E C hX hbl hbA hL
  · exact zsx_undo E C hX hbl hbA hL
  · exact zsx_gaps E C hX hbl hbA hL
  · exact zspG E hov C hX hbl hbA hL hst hTh zqJ_ok zqg_15
  · exact zsx_takes E C hX hbl hbA hL
  · exact zspG E hov C hX hbl hbA hL hst hTh zqJ_ok zqg_25
  · exact zsx_law E C hX hbl hbA hL
  · exact zspG E hov C hX hbl hbA hL hst hTh zqJ_ok zqg_45
  · exact zsx_keep E C hX hbl hbA hL
  · exact zsx_again E C hX hbl hbA hL
  · exact zspG E hov C hX hbl hbA hL hst hTh zqJ_ok zqg_48
end ZALLQ
