/-! give(), set() -/
set_option maxRecDepth 100000 in
theorem ym_give : ym_NA k9X7_give k9X8_give = true := by decide +kernel
section YU6
variable {d c n nx sz k1 k2 : Nat} {I I' I1 I2 Ia : Nat → Nat → Int32} {J : Nat → Nat → Int64} {R : Nat → Nat → Nat} {x y : Int32} {S : xq_S} {src : Nat → Int32}
theorem yPush (h36 : I 3 6 = Int32.ofNat c) (hc : c ≤ 8) (hW : yW I c nx sz) (hsrc : ∀ i, i < 27 → src i = yq_s I 15 i) (hw : yq_w c src) (p1 : Ia 24 1 = Int32.ofNat ((nx + 1) % 12)) (p2 : Ia 24 2 = Int32.ofNat (if sz = 12 then 12 else sz + 1)) (p3 : ∀ k j, ¬ k = 24 → Ia k j = yq_cp I (26 + 3 * nx) 15 k j) (q1 : I2 24 1 = Ia 24 1) (q2 : I2 24 2 = Ia 24 2) (q : ∀ k j, ySA k j → I2 k j = Ia k j) (g36 : I2 3 6 = I 3 6) (r1 : I2 94 24 = Int32.ofNat (if sz = 12 then 12 else sz + 1)) (r3 : ∀ j, j < (if sz = 12 then 12 else sz + 1) → ∀ i, i < 27 → I2 105 (27 * j + i) = if j = (if sz = 12 then 12 else sz + 1) - 1 then src i else I 105 (27 * (if sz = 12 then j + 1 else j) + i)) : yPa I2 := by
  obtain ⟨w1, w2, w3, w4, w5, w6⟩ := hW
  exact yq_push_ok h36 hc w1 w2 w3 w4 w6 (show 15 ≤ 18 by decide) hsrc hw g36 (q1.trans p1) (q2.trans p2) r1 (fun k j h1 h2 h3 => (q k j ⟨h1, h2, h3⟩).trans (p3 k j (by omega))) r3
theorem ygive (hF : yF I) (hB : yBF I) : yRm yBF 4 126 k9X7_give 4 218 k9X8_give [x, y] True yF I := by
  refine yRm_mk fun J R hR => ?_
  obtain ⟨c, n, v1, v2, v3, v4, v5, v6, v7, v8, v9, v10, v11⟩ := yV_of hF hB
  obtain ⟨nx, sz, hW⟩ := yPa_of hF.2.2.2.2.1 v1 v3
  obtain ⟨w1, w2, w3, w4, w5, w6⟩ := id hW
  by_cases hA : (0 ≤ x.toInt ∧ x.toInt < 8) ∧ (y = -1 ∨ (0 ≤ y.toInt ∧ y.toInt < (c : Int)))
  · have hx8 : x.toInt.toNat < 8 := by omega
    have hxN : 0 ≤ x.toInt ∧ x.toInt < ((8 : Nat) : Int) := by omega
    have hx27 : 0 ≤ x.toInt ∧ x.toInt < ((27 : Nat) : Int) := by omega
    obtain ⟨Ia, p0, p1, p2, p3⟩ := yq_push15 (d := 1) (J := J) (R := R) w1 w2 w3 w4
    have pn : ∀ k j, k ≤ 23 ∨ 62 ≤ k → Ia k j = I k j := fun k j h => (p3 k j (by omega)).trans (yq_cpn (by omega))
    refine ⟨I 16 x.toInt.toNat, xq_upd Ia 16 x.toInt.toNat y, ⟨J, R, ?_⟩, fun I1' he hf hB1 J' R' hR' => ?_⟩
    · show xq_D xqP 4 126 [.ref 0, .int x, .int y] (I, J, R) = _
      rw [qX7_give_eq, yc_isHour, xb_I1, if_pos hA.1, if_neg (by decide), yc_isSom v1 v3, xb_I1, if_pos hA.2, if_pos (by decide), p0, xb_V1, if_pos hxN, if_pos hxN]
      show some (some (Value.int (Ia 16 x.toInt.toNat)), _) = _
      rw [pn 16 _ (by decide)]
    · have g : ∀ k j, xv k j = true → k ≤ 14 ∨ 62 ≤ k → I1' k j = I k j := fun k j h1 h2 => by rw [he k j h1, xq_upd_n (by omega), pn k j (by omega)]
      have q24 : xq_upd I1' 94 11 0 94 24 = Int32.ofNat sz := by rw [xu_j (by decide), g 94 24 rfl (by decide), w5]
      have q3 : xq_upd I1' 94 11 0 94 3 = Int32.ofNat c := by rw [xu_j (by decide), g 94 3 rfl (by decide), v2]
      obtain ⟨Ib, r0, r1, r2, r3⟩ := yq_rem95 (d := 1) (J := J') (R := R') q24 w4
      have e95 : ∀ i, i < 27 → Ib 95 i = I 95 i := fun i hi => by rw [r2 95 i (by decide) (by omega), xu_k (by decide), g 95 i (y95_xv hi) (by decide)]
      refine ⟨I 95 x.toInt.toNat, xq_upd Ib 95 x.toInt.toNat y, ⟨J', R', ?_⟩, fun _ => ?_, fun I2' he2 hf2 hB2 => ?_⟩
      · show xq_D xqP 4 218 [.ref 94, .int x, .int y] (I1', J', R') = _
        rw [qX8_give_eq, yr_gift q3 v3, xb_I1, if_pos hA, if_pos (by decide), r0, xb_V1, if_pos hx27, if_pos hx27]
        show some (some (Value.int (Ib 95 x.toInt.toNat)), _) = _
        rw [e95 _ (by omega)]
      · rw [v10 _ (by omega), yq_s_1 hx8]
      · have t : ∀ k j, xv k j = true → ¬ 94 ≤ k → I2' k j = xq_upd Ia 16 x.toInt.toNat y k j := fun k j h1 h2 => by rw [he2 k j h1, xq_upd_n (by omega), r2 k j (by omega) (by omega), xq_upd_n (by omega), he k j h1]
        have t36 : I2' 3 6 = I 3 6 := by rw [t 3 6 rfl (by decide), xq_upd_n (by omega), pn 3 6 (by decide)]
        have t95 : ∀ i, i < 27 → I2' 95 i = if i = x.toInt.toNat then y else I 95 i := fun i hi => by
          rw [he2 95 i (y95_xv hi)]
          by_cases e : i = x.toInt.toNat
          · rw [if_pos e, e, xu_t]
          · rw [if_neg e, xu_j e, e95 i hi]
        have t16 : ∀ i, i < 8 → I2' 16 i = if i = x.toInt.toNat then y else I 16 i := fun i hi => by
          rw [t 16 i (y16_xv hi) (by decide)]
          by_cases e : i = x.toInt.toNat
          · rw [if_pos e, e, xu_t]
          · rw [if_neg e, xu_j e, pn 16 i (by decide)]
        refine yF_NA ym_give hf hf2 hF ⟨c, t36.trans v1, v3, fun i hi => ?_, fun i hi => ?_, fun r hr => ?_⟩ ?_
        · rw [t95 i hi]
          by_cases hi8 : i < 8
          · rw [yq_s_1 hi8, t16 i hi8, v10 i hi, yq_s_1 hi8]
          · rw [if_neg (by omega), v10 i hi]
            exact (yq_s_hi (fun j hj => by rw [t 17 j (y17_xv hj) (by decide), xq_upd_n (by omega), pn 17 j (by decide)]) (fun j h1 h2 => by rw [t 15 j (y15_xv h1 h2) (by decide), xq_upd_n (by omega), pn 15 j (by decide)]) (by omega) hi).symm
        · rw [t95 i (by omega)]
          by_cases e : i = x.toInt.toNat
          · rw [if_pos e]
            rcases hA.2 with h | h
            · rw [h]
              have : (-1 : Int32).toInt = -1 := by decide
              omega
            · omega
          · rw [if_neg e]
            exact v11.1 i hi
        · rw [t95 (8 + r) (by omega), t95 (16 + r) (by omega), if_neg (by omega), if_neg (by omega)]
          exact v11.2 r hr
        · refine yPush v1 v3 hW v10 v11 p1 p2 p3 ?_ ?_ (fun k j h => ?_) t36 ?_ (fun j hj i hi => ?_)
          · rw [t 24 1 rfl (by decide), xq_upd_n (by omega)]
          · rw [t 24 2 rfl (by decide), xq_upd_n (by omega)]
          · have h' := h
            obtain ⟨h1, h2, -⟩ := h'
            rw [t k j (ySA_xv h) (by omega), xq_upd_n (by omega)]
          · rw [he2 94 24 rfl, xq_upd_n (by omega), r1]
          · have hj12 : j < 12 := by split at hj <;> omega
            rw [he2 105 _ (y105_xv (by omega)), xq_upd_n (by omega), r3 j hj i hi]
            by_cases e : j = (if sz = 12 then 12 else sz + 1) - 1
            · rw [if_pos e, if_pos e, xu_k (by decide), g 95 i (y95_xv hi) (by decide)]
            · have hjb : 27 * (if sz = 12 then j + 1 else j) + i < 324 := by
                by_cases g : sz = 12
                · rw [if_pos g] at e hj ⊢
                  omega
                · rw [if_neg g]
                  omega
              rw [if_neg e, if_neg e, xu_k (by decide), g 105 _ (y105_xv hjb) (by decide)]
  · refine ⟨-2, I, ⟨J, R, ?_⟩, fun I1' he hf hB1 J' R' hR' => ?_⟩
    · show xq_D xqP 4 126 [.ref 0, .int x, .int y] (I, J, R) = _
      rw [qX7_give_eq, yc_isHour, xb_I1]
      by_cases h1 : 0 ≤ x.toInt ∧ x.toInt < 8
      · rw [if_pos h1, if_neg (by decide), yc_isSom v1 v3, xb_I1, if_neg (fun z => hA ⟨h1, z⟩), if_neg (by decide)]
      · rw [if_neg h1, if_pos rfl]
    · have q3 : xq_upd I1' 94 11 0 94 3 = Int32.ofNat c := by rw [xu_j (by decide), he 94 3 rfl, v2]
      refine ⟨-2, xq_upd I1' 94 11 0, ⟨J', R', ?_⟩, fun _ => rfl, fun I2' he2 hf2 hB2 => ?_⟩
      · show xq_D xqP 4 218 [.ref 94, .int x, .int y] (I1', J', R') = _
        rw [qX8_give_eq, yr_gift q3 v3, xb_I1, if_neg hA, if_neg (by decide)]
      · have t : ∀ k j, xv k j = true → ¬ (k = 94 ∧ j = 11) → I2' k j = I k j := fun k j h1 h2 => by rw [he2 k j h1, xq_upd_n h2, he k j h1]
        exact yF_xv t hF
end YU6
