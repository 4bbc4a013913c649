/-! later(), hard() -/
set_option maxRecDepth 100000 in
theorem ym_later : ym_0 k9X7_later k9X8_later = true := by decide +kernel
set_option maxRecDepth 100000 in
theorem ym_hard : ym_0 k9X7_hard k9X8_hard = true := by decide +kernel
section YU31
variable {d c n q n0 N : Nat} {I I' : Nat → Nat → Int32} {J : Nat → Nat → Int64} {R R' : Nat → Nat → Nat} {val : (Nat → Int32) → Int32} {CC : List Int32} {T : Nat → Int32} {be : Int32} {ca mo wi : Nat → Int32} {x y : Int32} {S : xq_S}
theorem yc_sum21 : ∃ x, xq_D xqP (d + 1) 90 [.ref 21] (I, J, R) = some (some (.int x), I, J, R) := by
  have l : ∀ (m v : Nat) (a : Int32), v + m = 8 → ∃ x, qX5_tiredOfAll_21_h4 d a (Int32.ofNat v) (I, J, R) = some (some (.int x), I, J, R) := by
    intro m
    induction m with
    | zero =>
      intro v a h
      have : v = 8 := by omega
      subst this
      exact ⟨a, by rw [qX5_tiredOfAll_21_h4_eq, if_pos (by decide)]⟩
    | succ m ih =>
      intro v a h
      have a1 : Int32.ofNat v + (1 : Int32) = Int32.ofNat (v + 1) := (Int32.ofNat_add v 1).symm
      have b1 := xt_nat (n := v) (by omega)
      have b2 : (Int32.ofNat v).toInt.toNat = v := by omega
      rw [qX5_tiredOfAll_21_h4_eq, if_neg (show ¬ (8 : Int32) ≤ Int32.ofNat v from fun z => by have := (xr_le (a := 8) (by omega) (by omega)).mp z; omega), b2, b1, if_pos (by omega), a1]
      exact ih (v + 1) _ (by omega)
  rw [qX5_tiredOfAll_21_eq]
  exact l 8 0 0 rfl
theorem yc_most21 : ∃ x, xq_D xqP (d + 1) 89 [.ref 21] (I, J, R) = some (some (.int x), I, J, R) := by
  have l : ∀ (m v : Nat) (a : Int32), v + m = 8 → ∃ x, qX5_mostTired_21_h4 d a (Int32.ofNat v) (I, J, R) = some (some (.int x), I, J, R) := by
    intro m
    induction m with
    | zero =>
      intro v a h
      have : v = 8 := by omega
      subst this
      exact ⟨a, by rw [qX5_mostTired_21_h4_eq, if_pos (by decide)]⟩
    | succ m ih =>
      intro v a h
      have a1 : Int32.ofNat v + (1 : Int32) = Int32.ofNat (v + 1) := (Int32.ofNat_add v 1).symm
      have b1 := xt_nat (n := v) (by omega)
      have b2 : (Int32.ofNat v).toInt.toNat = v := by omega
      rw [qX5_mostTired_21_h4_eq, if_neg (show ¬ (8 : Int32) ≤ Int32.ofNat v from fun z => by have := (xr_le (a := 8) (by omega) (by omega)).mp z; omega), b2, b1, if_pos (by omega), a1]
      exact ih (v + 1) _ (by omega)
  rw [qX5_mostTired_21_eq]
  exact l 8 0 0 rfl
theorem yr_sum107 (h3 : I 94 3 = Int32.ofNat c) (hc : c ≤ 8) : ∃ x, xq_D xqP (d + 1) 293 [.ref 94, .ref 107] (I, J, R) = some (some (.int x), I, J, R) := by
  have h3' : (I, J, R).1 94 3 = Int32.ofNat c := h3
  have l : ∀ (m v : Nat) (a : Int32), v + m = c → ∃ x, qX8_tired_107_h4 d a (Int32.ofNat v) (I, J, R) = some (some (.int x), I, J, R) := by
    intro m
    induction m with
    | zero =>
      intro v a h
      have : v = c := by omega
      subst this
      exact ⟨a, by rw [qX8_tired_107_h4_eq, h3', if_pos (Int32.le_refl _)]⟩
    | succ m ih =>
      intro v a h
      have a1 : Int32.ofNat v + (1 : Int32) = Int32.ofNat (v + 1) := (Int32.ofNat_add v 1).symm
      have a8 : (8 : Int32) + Int32.ofNat v = Int32.ofNat (8 + v) := (Int32.ofNat_add 8 v).symm
      have b1 := xt_nat (n := 8 + v) (by omega)
      have b2 : (Int32.ofNat (8 + v)).toInt.toNat = 8 + v := by omega
      rw [qX8_tired_107_h4_eq, h3', if_neg (fun z => by have := (xr_le (by omega) (by omega)).mp z; omega), a8, b2, b1, if_pos (by omega), a1]
      exact ih (v + 1) _ (by omega)
  rw [qX8_tired_107_eq]
  exact l c 0 0 (Nat.zero_add _)
theorem yr_ltl (h3 : I 94 3 = Int32.ofNat c) (hc : c ≤ 8) : ∀ (m v : Nat) (a : Int32), v + m = c → ∃ I' J', qX8_later_h42 (d + 1) a (Int32.ofNat v) (I, J, R) = some (some (.int (I 107 25 - I 95 25)), I', J', R)
  | 0, v, a, h => by
    have : v = c := by omega
    subst this
    have h3' : (I, J, R).1 94 3 = Int32.ofNat v := h3
    obtain ⟨x, hx⟩ := yr_sum107 (d := d) (I := xq_upd I 94 10 0) (J := J) (R := R) (c := v) (by rw [xu_j (by decide)]; exact h3) hc
    rw [qX8_later_h42_eq, h3', if_pos (Int32.le_refl _), hx, xb_I1, yr_tell (I := xq_upd I 94 10 0) (n := 0) xu_t (by decide), xb_V1, yr_tell (n := 1) xu_t (by decide), xb_V1]
    refine ⟨xq_upd (xq_upd (xq_upd I 94 10 0) 94 10 (Int32.ofNat (0 + 1))) 94 10 (Int32.ofNat (1 + 1)), xq_upd (xq_upd J 100 0 x.toInt64) 100 1 a.toInt64, ?_⟩
    show some (some (Value.int (xq_upd (xq_upd (xq_upd I 94 10 0) 94 10 (Int32.ofNat (0 + 1))) 94 10 (Int32.ofNat (1 + 1)) 107 25 - xq_upd (xq_upd (xq_upd I 94 10 0) 94 10 (Int32.ofNat (0 + 1))) 94 10 (Int32.ofNat (1 + 1)) 95 25)), _) = _
    rw [xu_k (by decide), xu_k (by decide), xu_k (by decide), xu_k (by decide), xu_k (by decide), xu_k (by decide)]
  | m + 1, v, a, h => by
    have h3' : (I, J, R).1 94 3 = Int32.ofNat c := h3
    have a1 : Int32.ofNat v + (1 : Int32) = Int32.ofNat (v + 1) := (Int32.ofNat_add v 1).symm
    have a8 : (8 : Int32) + Int32.ofNat v = Int32.ofNat (8 + v) := (Int32.ofNat_add 8 v).symm
    have b1 := xt_nat (n := 8 + v) (by omega)
    have b2 : (Int32.ofNat (8 + v)).toInt.toNat = 8 + v := by omega
    rw [qX8_later_h42_eq, h3', if_neg (fun z => by have := (xr_le (by omega) (by omega)).mp z; omega), a8, b2, b1, if_pos (by omega), a1]
    exact yr_ltl h3 hc m (v + 1) _ (by omega)
theorem ylaterF (hF : yF I) (hB : yBG I) : yRm yBG 7 140 k9X7_later 176 244 k9X8_later [x] True yF I := by
  refine yObs ym_later (by decide +kernel) hF (fun J R hR => ?_)
  obtain ⟨c, n, q, n0, val, hV, l2, l4, hL, hI, hw, hr⟩ := yOpen hF hB
  have v3 := hV.2.2.1
  have v7 := hV.2.2.2.2.2.2.1
  have e0 : (0 : Int32).toInt = 0 := by decide
  have e60 : (60 : Int32).toInt = 60 := by decide
  by_cases hA : 0 ≤ x.toInt ∧ x.toInt ≤ 60
  · obtain ⟨N, rfl, hN⟩ := ynat hA.1 hA.2
    have bN := xt_nat (n := N) (by omega)
    obtain ⟨d1, d2, d3⟩ := yD_c hI hw
    obtain ⟨i1, i2, i3, i4, i5, i6⟩ := id d2
    obtain ⟨Ic, c0, c1, c2⟩ := yNca21 (d := 0) (J := J) (R := R) (I := yq_cp I 21 15) (N := N) (ca := I 98) (mo := I 96) (wi := I 97) (by omega) v7 v3 l2 hR.1 i1 i2 i4 (by rw [i5]; exact hL) i6 d3
    obtain ⟨sx, hsx⟩ := yc_sum21 (d := 5) (I := Ic) (J := J) (R := R)
    obtain ⟨mx, hmx⟩ := yc_most21 (d := 5) (I := Ic) (J := J) (R := R)
    have hs25 : Ic 21 4 = yNN n c (I 3 8) (I 98) (I 96) (I 97) val N (yq_s I 15) 25 := by
      rw [show Ic 21 4 = yq_s Ic 21 25 from yq_s_25.symm, c1 25 (by decide), i3]
      exact yNN_cg v3 v7 (fun _ _ => ⟨rfl, rfl, rfl⟩) N _ _ d1 d3 25 (by decide)
    have hn25 : Ic 15 4 = yq_s I 15 25 := by
      rw [yq_s_25, c2 15 4 (by decide) (by decide) (by decide) (by decide) (by decide) (by decide) (by decide)]
      exact yq_cpn (by decide)
    refine ⟨yNN n c (I 3 8) (I 98) (I 96) (I 97) val N (yq_s I 15) 25 - yq_s I 15 25, ⟨xq_upd (xq_upd (xq_upd Ic 78 1 0) 78 1 1) 78 1 2, xq_upd (xq_upd J 79 0 sx.toInt64) 79 1 mx.toInt64, R, ?_⟩, fun I1 J' R' g hB1 hR' => ?_⟩
    · show xq_D xqP 7 140 [.ref 0, .int (Int32.ofNat N)] (I, J, R) = _
      rw [qX7_later_eq, if_neg (fun z => by rw [xt_lt, bN, e0] at z; omega), if_pos (by rw [xt_le, bN, e60]; omega), yq_c21_15, xb_V1, c0, xb_V1, hsx, xb_I1, hmx, xb_I1, yc_tell2, xb_V1]
      show some (some (Value.int (xq_upd (xq_upd (xq_upd Ic 78 1 0) 78 1 1) 78 1 2 21 4 - xq_upd (xq_upd (xq_upd Ic 78 1 0) 78 1 1) 78 1 2 15 4)), _) = _
      rw [xu_k (by decide), xu_k (by decide), xu_k (by decide), xu_k (by decide), xu_k (by decide), xu_k (by decide), hs25, hn25]
    · obtain ⟨Ia, a0, a1, a2, a3, a4⟩ := yr_open (d := 174) (J' := J') hr hw g hR'.2.2.1
      obtain ⟨h1, h2, h3, h4, h5, h6, h7, h8, h9⟩ := id a2
      obtain ⟨Ir, Rr, r0, r1, r2, r3⟩ := yNra107 (d := 0) (J := J') (N := N) (by omega) v7 v3 l4 ⟨h1, h2, h3, h4, h5, h6, fun i hi => by have := a3.1 i hi; omega⟩ (by rw [h7]; exact hL) a3
      obtain ⟨It, Jt, t0⟩ := yr_ltl (d := 174) (J := J') (R := Rr) (I := Ir) (c := c) ((r2 94 3 (by decide) (by decide) (by decide) (by decide) (by decide)).trans h2) v3 c 0 0 (Nat.zero_add _)
      have hr25 : Ir 107 25 = yNN n c (I 3 8) (I 98) (I 96) (I 97) val N (yq_s I 15) 25 := by
        rw [r1 25 (by decide), h8]
        rw [yNN_cg v3 v7 h9 N (Ia 107) (Ia 107) (fun _ _ => rfl) a3 25 (by decide)]
        exact yNN_cg v3 v7 (fun _ _ => ⟨rfl, rfl, rfl⟩) N _ _ a1 a3 25 (by decide)
      have hn2 : Ir 95 25 = yq_s I 15 25 := by rw [r2 95 25 (by decide) (by decide) (by decide) (by decide) (by decide), a4 25 (by decide)]
      rw [hr25, hn2] at t0
      refine ⟨It, Jt, Rr, ?_⟩
      show xq_D xqP 176 244 [.ref 94, .int (Int32.ofNat N)] (I1, J', R') = _
      have a0' : xq_D xqP 175 246 [.ref 95, .ref 107, .int 0] ((xq_upd (I1, J', R').1 94 11 0), (I1, J', R').2) = some (none, Ia, J', R') := a0
      have t0' : qX8_later_h42 175 0 0 (Ir, J', Rr) = some (some (.int (yNN n c (I 3 8) (I 98) (I 96) (I 97) val N (yq_s I 15) 25 - yq_s I 15 25)), It, Jt, Rr) := t0
      rw [qX8_later_eq, xe_in, xb_I1, e0, e60, if_pos hA, if_pos (by decide), a0', xb_V1, r0, xb_V1, t0']
  · refine ⟨-1, ⟨I, J, R, ?_⟩, fun I1 J' R' g hB1 hR' => ⟨xq_upd I1 94 11 0, J', R', ?_⟩⟩
    · show xq_D xqP 7 140 [.ref 0, .int x] (I, J, R) = _
      rw [qX7_later_eq]
      by_cases h : x < 0
      · rw [if_pos h]
      · rw [if_neg h, if_neg (fun z => by rw [xt_lt, e0] at h; rw [xt_le, e60] at z; omega)]
    · show xq_D xqP 176 244 [.ref 94, .int x] (I1, J', R') = _
      rw [qX8_later_eq, xe_in, xb_I1, e0, e60, if_neg hA, if_neg (by decide)]
/-- HARD now, in both -/
theorem yc_hardO (hV : yV I c n) (hq : q ≤ 40) (hL : yLv (yv_c (I 11) q) T n0 val) (l1 : I 10 4 = Int32.ofNat q) (hR : R 3 9 = 10) : ∀ I', yagC I I' → ∀ r h, r < c → h < 8 → ∃ I'', xq_D xqP (d + 4) 129 [.ref 0, .int (Int32.ofNat r), .int (Int32.ofNat h)] (I', J, R) = some (some (.int (yHD val I r h)), I'', J, R) ∧ yagC I' I'' := by
  intro I' hag r h hr hh
  obtain ⟨I'', k0, k1⟩ := yc_H10 (d := d) (J := J) (R := R) (I0 := I) hV hq hL l1 rfl (fun _ _ => ⟨rfl, rfl, rfl, rfl⟩) rfl I' hag r h hr hh
  have hR' : (I', J, R).2.2 3 9 = 10 := hR
  exact ⟨I'', by rw [qX7_hardNow_eq, hR', if_neg (by decide), if_pos rfl, k0, xb_I1], k1⟩
theorem yr_hardO {I0 : Nat → Nat → Int32} (hV : yV I c n) (hn0 : n0 ≤ 40) (hL : yLv CC (yk_t I 102 n0 40) n0 val) (h1 : yIr n c n0 be (yk_t I 102 n0 40) (I 98) (I 96) (I 97) I0 R) (h2 : ∀ i, i < 27 → I0 95 i = yq_s I 15 i) : ∀ I' R', yagR I0 I' → (∀ k j, ¬ (k = 94 ∧ j = 12) → R' k j = R k j) → ∀ r h, r < c → h < 8 → ∃ I'' R'', xq_D xqP (d + 172) 225 [.ref 94, .ref 95, .int (Int32.ofNat r), .int (Int32.ofNat h)] (I', J, R') = some (some (.int (yHD val I r h)), I'', J, R'') ∧ yagR I' I'' ∧ ∀ k j, ¬ (k = 94 ∧ j = 12) → R'' k j = R' k j := by
  obtain ⟨i1, i2, i3, i4, i5, i6, i7, i8, i9⟩ := h1
  have v10 := hV.2.2.2.2.2.2.2.2.2.1
  exact yr_H95 (d := d) (J := J) (R := R) hV hn0 hL i5 i3 i4 i6 i7 (fun r hr => ⟨by rw [h2 _ (by omega), v10 _ (by omega)], (i9 r hr).2.2, (i9 r hr).2.1, (i9 r hr).1⟩) (by rw [h2 _ (by decide), v10 _ (by decide)])
theorem yhardF (hF : yF I) (hB : yBG I) : yRm yBG 5 128 k9X7_hard 173 223 k9X8_hard [x, y] True yF I := by
  refine yObs ym_hard (by decide +kernel) hF (fun J R hR => ?_)
  obtain ⟨c, n, q, n0, val, hV, l2, l4, hL, hI, hw, hr⟩ := yOpen hF hB
  have v1 := hV.1
  have v3 := hV.2.2.1
  obtain ⟨-, -, -, l1, -, -⟩ := id hI
  have ref : ∀ (I1 : Nat → Nat → Int32) (R' : Nat → Nat → Nat), (∀ k j, xv k j = true → 94 ≤ k → I1 k j = I k j) → R' 94 18 = 102 → yIr n c n0 (I 3 8) (yk_t I 102 n0 40) (I 98) (I 96) (I 97) (xq_upd I1 94 11 0) R' ∧ ∀ i, i < 27 → xq_upd I1 94 11 0 95 i = yq_s I 15 i := fun I1 R' g hR' => hr (xq_upd I1 94 11 0) R' (fun k j h1 h2 h3 => by rw [xq_upd_n h3]; exact g k j h1 h2) hR'
  by_cases hx : 0 ≤ x.toInt ∧ x.toInt < (c : Int)
  · by_cases hy : 0 ≤ y.toInt ∧ y.toInt < 8
    · have ex := yi_ofNat hx.1 (by omega)
      have ey := yi_ofNat hy.1 (by omega)
      obtain ⟨Ic, c0, -⟩ := yc_hardO (d := 0) (J := J) hV l2 hL l1 hR.1 I (fun _ _ _ _ _ => rfl) x.toInt.toNat y.toInt.toNat (by omega) (by omega)
      rw [← ex, ← ey] at c0
      refine ⟨yHD val I x.toInt.toNat y.toInt.toNat, ⟨Ic, J, R, ?_⟩, fun I1 J' R' g hB1 hR' => ?_⟩
      · show xq_D xqP 5 128 [.ref 0, .int x, .int y] (I, J, R) = _
        have c0' : xq_D xqP 4 129 [.ref 0, .int x, .int y] (I, J, R) = some (some (.int (yHD val I x.toInt.toNat y.toInt.toNat)), Ic, J, R) := c0
        rw [qX7_hard_eq, yc_has v1 v3, xb_I1, if_pos hx, if_neg (by decide), yc_isHour, xb_I1, if_pos hy, if_pos (by decide), c0', xb_I1]
      · obtain ⟨r1, r2⟩ := ref I1 R' g hR'.2.2.1
        obtain ⟨Ir, Rr, r0, -, -⟩ := yr_hardO (d := 0) (J := J') hV l4 hL r1 r2 (xq_upd I1 94 11 0) R' (fun _ _ _ _ => rfl) (fun _ _ _ => rfl) x.toInt.toNat y.toInt.toNat (by omega) (by omega)
        rw [← ex, ← ey] at r0
        refine ⟨Ir, J', Rr, ?_⟩
        show xq_D xqP 173 223 [.ref 94, .int x, .int y] (I1, J', R') = _
        have r0' : xq_D xqP 172 225 [.ref 94, .ref 95, .int x, .int y] (xq_upd I1 94 11 0, J', R') = some (some (.int (yHD val I x.toInt.toNat y.toInt.toNat)), Ir, J', Rr) := r0
        rw [qX8_hard_eq, yr_man (I := xq_upd I1 94 11 0) r1.2.1 v3, xb_I1, if_pos hx, if_neg (by decide), yr_isHour, xb_I1, if_pos hy, if_neg (by decide), r0', xb_I1]
    · refine ⟨-1, ⟨I, J, R, ?_⟩, fun I1 J' R' g hB1 hR' => ⟨xq_upd I1 94 11 0, J', R', ?_⟩⟩
      · show xq_D xqP 5 128 [.ref 0, .int x, .int y] (I, J, R) = _
        rw [qX7_hard_eq, yc_has v1 v3, xb_I1, if_pos hx, if_neg (by decide), yc_isHour, xb_I1, if_neg hy, if_neg (by decide)]
      · obtain ⟨r1, -⟩ := ref I1 R' g hR'.2.2.1
        show xq_D xqP 173 223 [.ref 94, .int x, .int y] (I1, J', R') = _
        rw [qX8_hard_eq, yr_man (I := xq_upd I1 94 11 0) r1.2.1 v3, xb_I1, if_pos hx, if_neg (by decide), yr_isHour, xb_I1, if_neg hy, if_pos rfl]
  · refine ⟨-1, ⟨I, J, R, ?_⟩, fun I1 J' R' g hB1 hR' => ⟨xq_upd I1 94 11 0, J', R', ?_⟩⟩
    · show xq_D xqP 5 128 [.ref 0, .int x, .int y] (I, J, R) = _
      rw [qX7_hard_eq, yc_has v1 v3, xb_I1, if_neg hx, if_pos rfl]
    · obtain ⟨r1, -⟩ := ref I1 R' g hR'.2.2.1
      show xq_D xqP 173 223 [.ref 94, .int x, .int y] (I1, J', R') = _
      rw [qX8_hard_eq, yr_man (I := xq_upd I1 94 11 0) r1.2.1 v3, xb_I1, if_neg hx, if_pos rfl]
end YU31
