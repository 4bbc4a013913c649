/-! rounds with more bounds -/
theorem yRd_F {B : (Nat → Nat → Int32) → Prop} {d1 m1 d2 m2 : Nat} {xs : List Int32} {cmp : Prop} {P : (Nat → Nat → Int32) → Prop} {I : Nat → Nat → Int32} (hr : yRd B d1 m1 d2 m2 xs cmp P I) : yRd B d1 m1 d2 m2 xs False P I := by
  intro J R hR
  obtain ⟨a, I1, J1, R1, h1, h2⟩ := hr J R hR
  refine ⟨a, I1, J1, R1, h1, fun I1' he hB J' R' hR' => ?_⟩
  obtain ⟨b, I2, J2, R2, h3, -, h5⟩ := h2 I1' he hB J' R' hR'
  exact ⟨b, I2, J2, R2, h3, fun h => h.elim, h5⟩
section YYI
variable {I : Nat → Nat → Int32} {x y p : Int32}
theorem ysign_y (hP : yP I) (hB : yBy I) : yRd yBy 2 167 1 280 [x] False yP I := yRd_B (fun _ h => h.1) (ysign hP hB.1)
theorem yend_y (hP : yP I) (hB : yBy I) : yRd yBy 2 115 2 205 [x] False yP I := yRd_B (fun _ h => h.1) (yend hP hB.1)
theorem yriders_y (hP : yP I) (hB : yBy I) : yRd yBy 4 158 6 272 [] False yP I := yRd_B (fun _ h => h.1) (yriders hP hB.1)
theorem ykeep_y (hP : yP I) (hB : yBy I) : yRd yBy 2 138 2 241 [x] False yP I := yRd_B (fun _ h => h.1) (ykeep hP hB.1)
theorem ymeets_y (hP : yP I) (hB : yBy I) : yRd yBy 4 144 5 253 [x, y, p] True yP I := yRd_B (fun _ h => h.1) (ymeets hP hB.1)
theorem yyear_f (hP : yP I) (hB : yBy I) : yRd yBy 8 181 177 299 [] False yP I := yRd_F (yyear hP hB)
end YYI
