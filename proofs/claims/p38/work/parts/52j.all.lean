/-! ALL ROUNDS -/
set_option maxRecDepth 100000 in
theorem zypre4 : zpref zyT3 zyI = true := by decide +kernel
set_option maxRecDepth 100000 in
theorem zyg_4 : zbodyG zyds zyT3 zyI (.ofNat 4, .ofNat 35) ztopI ztopI = true := by decide +kernel
set_option maxRecDepth 100000 in
theorem zyg_38 : zbodyG zyds zyT3 zyI (.ofNat 38, .ofNat 63) ztopI ztopI = true := by decide +kernel
def zyjs4 : List zI := [(.ofNat 0, .ofNat 0), (.ofNat 1, .ofNat 1), (.ofNat 2, .ofNat 2), (.ofNat 3, .ofNat 3), (.ofNat 4, .ofNat 35), (.ofNat 36, .ofNat 36), (.ofNat 37, .ofNat 37), (.ofNat 38, .ofNat 63)]
theorem zyj4_ok : zcov64 0 zyjs4 = true := by decide +kernel
theorem zyb4_ok : ∀ j ∈ zyjs4, zcov (-2147483648) [ztopI] = true := by decide +kernel
section ZALL4
variable {p : Program} {l : Launch} {e : Env} {s : State} {m : MethodId} {below : List Frame} {meth : Method} {c0 : Code} {b : Nat} {D : va_G} {tys : List (ClassId × FieldType)} {o : zO} {z : Nat} {nm : String} {L : Nat} {xs : Nat → Int32}
theorem zySp4 (E : zEnv tys) (hov : ∀ g, zOwOk l D vwCl tys (zwith o g) z (zXX o z) zTs zprog2 (zovW zyds)) (C : zCx p room_1 s m #[Value.ref b] meth c0 D vwCl tys z (zXX o z) zTs RL cL_law 8 nm) (hX : va_X o.1 L xs s s.heap) (hbl : o.1 < s.heap.size) (hbA : ¬ zA z o.1) (hL : L ≤ 2560) (hst : l.stackTraces = false) (hTh : zTh z s s.heap) : ∀ j ∈ zyjs4, ∀ b1 ∈ ([ztopI] : List zI), ∀ b2 ∈ ([ztopI] : List zI), zSpec p l e s m b below meth c0 D tys o z L xs zyI zyT3 j b1 b2 := by
  intro j hj b1 hb1 b2 hb2
  have e1 := List.mem_singleton.mp hb1
  have e2 := List.mem_singleton.mp hb2
  subst e1
  subst e2
  simp only [zyjs4, List.mem_cons, List.not_mem_nil, or_false] at hj
  rcases hj with rfl | rfl | rfl | rfl | rfl | rfl | rfl | rfl
  · exact zsp_sign E C hX hbl hbA hL
  · exact zsp_end E C hX hbl hbA hL
  · exact zsp_riders E C hX hbl hbA hL
  · exact zspP E hov C hX hbl hbA hL hst hTh zyT3_ok (fun q hq => List.mem_cons_of_mem _ hq) (fun q hq => (List.mem_cons.mp hq).elim (fun h => Or.inr (h ▸ List.mem_cons_self)) Or.inl) zyPm zyRu1 zyRu2
  · exact zspG E hov C hX hbl hbA hL hst hTh zyT3_ok zyg_4
  · exact zsp_found E C hX hbl hbA hL
  · exact zsp_forget E C hX hbl hbA hL
  · exact zspG E hov C hX hbl hbA hL hst hTh zyT3_ok zyg_38
end ZALL4
