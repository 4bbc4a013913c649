/-! rounds, purely: shared(), again(), meets() compared; sign(), end(), riders(), keep() -/
def yS (k j : Nat) : Prop := (k = 1 ∧ j = 1) ∨ (k = 94 ∧ (j = 8 ∨ j = 3 ∨ j = 47)) ∨ (k = 3 ∧ j = 6) ∨ ((k = 2 ∨ k = 99) ∧ j < 80) ∨ ((k = 4 ∨ k = 5 ∨ k = 6 ∨ k = 96 ∨ k = 97 ∨ k = 98) ∧ j < 8) ∨ ((k = 63 ∨ k = 123 ∨ k = 124) ∧ j < 2)
theorem yS_xv {k j : Nat} (h : yS k j) : xv k j = true := by
  rcases h with ⟨rfl, rfl⟩ | ⟨rfl, rfl | rfl | rfl⟩ | ⟨rfl, rfl⟩ | ⟨rfl | rfl, h⟩ | ⟨rfl | rfl | rfl | rfl | rfl | rfl, h⟩ | ⟨rfl | rfl | rfl, h⟩
  · rfl
  · rfl
  · rfl
  · rfl
  · rfl
  · exact xv_ar (t := 0) (n := 80) rfl (by omega) h
  · exact xv_ar (t := 3) (n := 80) rfl (by omega) h
  · exact xv_ar (t := 0) (n := 8) rfl (by omega) h
  · exact xv_ar (t := 0) (n := 8) rfl (by omega) h
  · exact xv_ar (t := 0) (n := 8) rfl (by omega) h
  · exact xv_ar (t := 0) (n := 8) rfl (by omega) h
  · exact xv_ar (t := 0) (n := 8) rfl (by omega) h
  · exact xv_ar (t := 0) (n := 8) rfl (by omega) h
  · exact xv_ar (t := 2) (n := 2) rfl (by omega) h
  · exact xv_ar (t := 2) (n := 2) rfl (by omega) h
  · exact xv_ar (t := 0) (n := 2) rfl (by omega) h
theorem yP_cg {I I' : Nat → Nat → Int32} (h : ∀ k j, yS k j → I' k j = I k j) (hP : yP I) : yP I' := by
  obtain ⟨h1, h2, h3, h4, h5, h6, h7⟩ := hP
  have g11 := h 1 1 (by unfold yS; omega)
  have g8 := h 94 8 (by unfold yS; omega)
  have g3 := h 94 3 (by unfold yS; omega)
  have g47 := h 94 47 (by unfold yS; omega)
  have g36 := h 3 6 (by unfold yS; omega)
  refine ⟨?_, fun i hi => ?_, ?_, fun r hr hc => ?_, ?_, ?_, fun i hi => ?_⟩
  · unfold yP1
    rw [g11, g8]
    exact h1
  · rw [h 2 i (by unfold yS; omega), h 99 i (by unfold yS; omega)]
    exact h2 i hi
  · unfold yP3
    rw [g3, g36]
    exact h3
  · rw [g36] at hc
    rw [h 4 r (by unfold yS; omega), h 5 r (by unfold yS; omega), h 6 r (by unfold yS; omega), h 96 r (by unfold yS; omega), h 97 r (by unfold yS; omega), h 98 r (by unfold yS; omega)]
    exact h4 r hr hc
  · rw [g47]
    exact h5
  · rw [g47, g3]
    exact h6
  · rw [h 124 i (by unfold yS; omega), h 63 i (by unfold yS; omega), h 123 i (by unfold yS; omega), g47]
    exact h7 i hi
section YB
variable {d c : Nat} {I : Nat → Nat → Int32} {J : Nat → Nat → Int64} {R : Nat → Nat → Nat} {x y : Int32} {v w : Int64}
theorem yc_clear : xq_D xqP (d + 1) 35 [.ref 78] (I, J, R) = some (none, xq_upd I 78 1 0, J, R) := by rw [qX1_clear_eq]
theorem yc_add {n : Nat} (h : I 78 1 = Int32.ofNat n) (hn : n < 8) : xq_D xqP (d + 1) 33 [.ref 78, .long v] (I, J, R) = some (none, xq_upd I 78 1 (Int32.ofNat (n + 1)), xq_upd J 79 n v, R) := by
  have e : (I, J, R).1 78 1 = Int32.ofNat n := h
  have e1 : Int32.ofNat n + (1 : Int32) = Int32.ofNat (n + 1) := (Int32.ofNat_add n 1).symm
  rw [qX1_add_eq, e, e1]
  rw [if_neg (show ¬ Int32.ofNat 8 ≤ Int32.ofNat n by rw [xr_le (by omega) (by omega)]; omega), xt_nat (by omega), if_pos (by omega)]
  rfl
theorem yc_tell1 : xq_D xqP (d + 2) 37 [.ref 78, .long v] (I, J, R) = some (none, xq_upd (xq_upd I 78 1 0) 78 1 1, xq_upd J 79 0 v, R) := by
  rw [qX1_tell_eq, yc_clear, xb_V1, yc_add (I := xq_upd I 78 1 0) (n := 0) xu_t (by decide), xb_V1]
  rfl
theorem yc_tell2 : xq_D xqP (d + 2) 38 [.ref 78, .long v, .long w] (I, J, R) = some (none, xq_upd (xq_upd (xq_upd I 78 1 0) 78 1 1) 78 1 2, xq_upd (xq_upd J 79 0 v) 79 1 w, R) := by
  rw [qX1_tell__eq, yc_clear, xb_V1, yc_add (I := xq_upd I 78 1 0) (n := 0) xu_t (by decide), xb_V1, yc_add (I := xq_upd (xq_upd I 78 1 0) 78 1 (Int32.ofNat 1)) (n := 1) xu_t (by decide), xb_V1]
  rfl
theorem yr_tell {n : Nat} (h : I 94 10 = Int32.ofNat n) (hn : n < 16) : xq_D xqP (d + 1) 287 [.ref 94, .long v] (I, J, R) = some (none, xq_upd I 94 10 (Int32.ofNat (n + 1)), xq_upd J 100 n v, R) := by
  have e : (I, J, R).1 94 10 = Int32.ofNat n := h
  have e1 : Int32.ofNat n + (1 : Int32) = Int32.ofNat (n + 1) := (Int32.ofNat_add n 1).symm
  rw [qX8_tell_eq, e, e1, xt_nat (by omega), if_pos (by omega)]
  rfl
theorem yshared (hP : yP I) (hB : yB I) : yRd yB 4 165 5 278 [x, y] True yP I := by
  refine yRd_mk fun J R hR => ?_
  obtain ⟨c, hc, hc8⟩ := ynat hB.2.1.1 hB.2.1.2
  have hc8 : c ≤ 8 := by omega
  have hm : I 94 3 = Int32.ofNat c := hP.2.2.1.trans hc
  have ec : (I 3 6).toInt = (c : Int) := by rw [hc, xt_nat (by omega)]
  by_cases hA : (0 ≤ x.toInt ∧ x.toInt < (c : Int)) ∧ (0 ≤ y.toInt ∧ y.toInt < (c : Int)) ∧ ¬ x = y
  · have hx : 0 ≤ x.toInt ∧ x.toInt < ((8 : Nat) : Int) := by omega
    have hy : 0 ≤ y.toInt ∧ y.toInt < ((8 : Nat) : Int) := by omega
    refine ⟨I 4 x.toInt.toNat &&& I 4 y.toInt.toNat, xq_upd (xq_upd I 78 1 0) 78 1 1, ?_, ?_⟩
    · exact ⟨_, _, by
        show xq_D xqP 4 165 [.ref 0, .int x, .int y] (I, J, R) = _
        rw [qX7_shared_eq, yc_two hc hc8, xb_I1, if_pos hA, if_pos (by decide), if_pos hx, if_pos hy, yc_tell1, xb_V1, if_pos hx, if_pos hy]
        show some (some (Value.int ((xq_upd (xq_upd I 78 1 0) 78 1 1) 4 x.toInt.toNat &&& (xq_upd (xq_upd I 78 1 0) 78 1 1) 4 y.toInt.toNat)), _) = _
        rw [xu_k (by decide), xu_k (by decide), xu_k (by decide), xu_k (by decide)]⟩
    · intro I1' he hB1 J' R' hR'
      have hS : ∀ k j, yS k j → I1' k j = I k j := fun k j h => by
        rw [he k j (yS_xv h), xq_upd_n (by unfold yS at h; omega), xq_upd_n (by unfold yS at h; omega)]
      have hm1 : xq_upd I1' 94 11 0 94 3 = Int32.ofNat c := by
        rw [xu_j (by decide), hS 94 3 (by unfold yS; omega), hm]
      refine ⟨I1' 98 x.toInt.toNat &&& I1' 98 y.toInt.toNat, xq_upd (xq_upd (xq_upd I1' 94 11 0) 94 10 0) 94 10 1, ?_, ?_, ?_⟩
      · exact ⟨_, _, by
          show xq_D xqP 5 278 [.ref 94, .int x, .int y] (I1', J', R') = _
          rw [qX8_shared_eq, yr_two hm1 hc8, xb_I1, if_pos hA, if_pos (by decide), if_pos hx, if_pos hy]
          rw [yr_tell (I := xq_upd (xq_upd I1' 94 11 0) 94 10 0) (n := 0) xu_t (by decide), xb_V1, if_pos hx, if_pos hy]
          show some (some (Value.int ((xq_upd (xq_upd (xq_upd I1' 94 11 0) 94 10 0) 94 10 1) 98 x.toInt.toNat &&& (xq_upd (xq_upd (xq_upd I1' 94 11 0) 94 10 0) 94 10 1) 98 y.toInt.toNat)), _) = _
          rw [xu_k (by decide), xu_k (by decide), xu_k (by decide), xu_k (by decide), xu_k (by decide), xu_k (by decide)]
          rfl⟩
      · intro _
        rw [hS 98 _ (by unfold yS; omega), hS 98 _ (by unfold yS; omega), (hP.2.2.2.1 x.toInt.toNat (by omega) (by omega)).1, (hP.2.2.2.1 y.toInt.toNat (by omega) (by omega)).1]
      · refine yP_cg (fun k j h => ?_) hP
        rw [xq_upd_n (by unfold yS at h; omega), xq_upd_n (by unfold yS at h; omega), xq_upd_n (by unfold yS at h; omega), hS k j h]
  · refine ⟨-1, I, ⟨J, R, ?_⟩, ?_⟩
    · show xq_D xqP 4 165 [.ref 0, .int x, .int y] (I, J, R) = _
      rw [qX7_shared_eq, yc_two hc hc8, xb_I1, if_neg hA, if_neg (by decide)]
    · intro I1' he hB1 J' R' hR'
      have hS : ∀ k j, yS k j → I1' k j = I k j := fun k j h => he k j (yS_xv h)
      have hm1 : xq_upd I1' 94 11 0 94 3 = Int32.ofNat c := by
        rw [xu_j (by decide), hS 94 3 (by unfold yS; omega), hm]
      refine ⟨-1, xq_upd I1' 94 11 0, ⟨J', R', ?_⟩, fun _ => rfl, ?_⟩
      · show xq_D xqP 5 278 [.ref 94, .int x, .int y] (I1', J', R') = _
        rw [qX8_shared_eq, yr_two hm1 hc8, xb_I1, if_neg hA, if_neg (by decide)]
      · refine yP_cg (fun k j h => ?_) hP
        rw [xq_upd_n (by unfold yS at h; omega), hS k j h]
end YB
