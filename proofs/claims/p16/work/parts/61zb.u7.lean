/-! ill(), undo(); who is ill as bits -/
theorem yhb_xor {x y : Int32} {k : Nat} (hk : k < 8) : yhb (x ^^^ y) (Int32.ofNat k) ↔ ¬ (yhb x (Int32.ofNat k) ↔ yhb y (Int32.ofNat k)) := by
  rw [yhb_bit hk, yhb_bit hk, yhb_bit hk, Int32.toBitVec_xor, BitVec.getLsbD_xor]
  cases x.toBitVec.getLsbD k <;> cases y.toBitVec.getLsbD k <;> decide
theorem yIl_x {il : Int32} {X r : Nat} (hX : X < 8) (hr : r < 8) : yIl (il ^^^ ((1 : Int32) <<< (Int32.ofNat X &&& 31))) r = if r = X then 1 - yIl il r else yIl il r := by
  have h1 : yhb (il ^^^ ybit X) (Int32.ofNat r) ↔ ¬ (yhb il (Int32.ofNat r) ↔ r = X) := by
    rw [yhb_xor hr, yhb_ybit hX hr]
  show yIl (il ^^^ ybit X) r = _
  by_cases e : r = X
  · rw [if_pos e]
    by_cases g : yhb il (Int32.ofNat r)
    · rw [yIl_T g, yIl_F (fun z => h1.mp z ⟨fun _ => e, fun _ => g⟩)]
      decide
    · rw [yIl_F g, yIl_T (h1.mpr (fun z => g (z.mpr e)))]
      decide
  · rw [if_neg e]
    by_cases g : yhb il (Int32.ofNat r)
    · rw [yIl_T g, yIl_T (h1.mpr (fun z => e (z.mp g)))]
    · rw [yIl_F g, yIl_F (fun z => h1.mp z ⟨fun q => absurd q g, fun q => absurd q e⟩)]
def yib (il : Int32) : Nat → Int32
  | 0 => 0
  | r + 1 => yib il r ||| (yIl il r <<< (Int32.ofNat r &&& 31))
set_option maxRecDepth 100000 in
theorem yib_all : ∀ k, k < 256 → ∀ c, c < 9 → (∀ r, r < 8 → c ≤ r → yIl (Int32.ofNat k) r = 0) → yib (Int32.ofNat k) c = Int32.ofNat k := by decide +kernel
set_option maxRecDepth 100000 in
theorem ym_ill : ym_NA k9X7_ill k9X8_ill = true := by decide +kernel
set_option maxRecDepth 100000 in
theorem ym_undo : ym_NA k9X7_undo k9X8_undo = true := by decide +kernel
section YU7
variable {d c n nx sz k1 k2 : Nat} {I I' I1 I2 Ia : Nat → Nat → Int32} {J : Nat → Nat → Int64} {R : Nat → Nat → Nat} {x y il : Int32} {S : xq_S} {src : Nat → Int32}
theorem yr_illl (h3 : I 94 3 = Int32.ofNat c) (hc : c ≤ 8) (hs : ∀ r, r < c → I 95 (16 + r) = yIl il r) : ∀ m v, v + m = c → qX8_illBits_95_h4 d (yib il v) (Int32.ofNat v) (I, J, R) = some (some (.int (yib il c)), I, J, R)
  | 0, v, h => by
    have e : v = c := by omega
    subst e
    have e : (I, J, R).1 94 3 = Int32.ofNat v := h3
    rw [qX8_illBits_95_h4_eq, e, if_pos (Int32.le_refl _)]
  | m + 1, v, h => by
    have e : (I, J, R).1 94 3 = Int32.ofNat c := h3
    have a1 : Int32.ofNat v + (1 : Int32) = Int32.ofNat (v + 1) := (Int32.ofNat_add v 1).symm
    have a16 : (16 : Int32) + Int32.ofNat v = Int32.ofNat (16 + v) := (Int32.ofNat_add 16 v).symm
    have b1 := xt_nat (n := 16 + v) (by omega)
    have b2 : (Int32.ofNat (16 + v)).toInt.toNat = 16 + v := by omega
    rw [qX8_illBits_95_h4_eq, e, if_neg (fun z => by have := (xr_le (by omega) (by omega)).mp z; omega), a16, b2, b1, if_pos (by omega)]
    have e2 : (I, J, R).1 95 (16 + v) = yIl il v := hs v (by omega)
    rw [e2, a1]
    exact yr_illl h3 hc hs m (v + 1) (by omega)
theorem yr_illBits (h3 : I 94 3 = Int32.ofNat c) (hc : c ≤ 8) (hs : ∀ r, r < 8 → I 95 (16 + r) = yIl il r) (h0 : ∀ r, r < 8 → c ≤ r → I 95 (16 + r) = 0) (hil : 0 ≤ il.toInt ∧ il.toInt ≤ 255) : xq_D xqP (d + 1) 234 [.ref 94, .ref 95] (I, J, R) = some (some (.int il), I, J, R) := by
  rw [qX8_illBits_95_eq]
  obtain ⟨k, hk, hk8⟩ := ynat hil.1 hil.2
  have h := yr_illl (d := d) (J := J) (R := R) (il := il) h3 hc (fun r hr => hs r (by omega)) c 0 (by omega)
  have e : yib il c = il := by
    rw [hk]
    refine yib_all k (by omega) c (by omega) (fun r hr hcr => ?_)
    rw [← hk, ← hs r hr]
    exact h0 r hr hcr
  rw [e] at h
  exact h
theorem yill (hF : yF I) (hB : yBF I) : yRm yBF 4 133 k9X7_ill 4 233 k9X8_ill [x] True yF I := by
  refine yRm_mk fun J R hR => ?_
  obtain ⟨c, n, v1, v2, v3, v4, v5, v6, v7, v8, v9, v10, v11⟩ := yV_of hF hB
  obtain ⟨nx, sz, hW⟩ := yPa_of hF.2.2.2.2.1 v1 v3
  obtain ⟨w1, w2, w3, w4, w5, w6⟩ := id hW
  by_cases hA : 0 ≤ x.toInt ∧ x.toInt < (c : Int)
  · obtain ⟨X, rfl, hX⟩ := ynat hA.1 (Int.le_of_lt hA.2)
    have bX := xt_nat (n := X) (by omega)
    have hXc : X < c := by omega
    obtain ⟨Ia, p0, p1, p2, p3⟩ := yq_push15 (d := 1) (J := J) (R := R) w1 w2 w3 w4
    have pn : ∀ k j, k ≤ 23 ∨ 62 ≤ k → Ia k j = I k j := fun k j h => (p3 k j (by omega)).trans (yq_cpn (by omega))
    refine ⟨ybc (I 15 2 ^^^ ((1 : Int32) <<< (Int32.ofNat X &&& 31))), xq_upd Ia 15 2 (I 15 2 ^^^ ((1 : Int32) <<< (Int32.ofNat X &&& 31))), ⟨J, R, ?_⟩, fun I1' he hf hB1 J' R' hR' => ?_⟩
    · show xq_D xqP 4 133 [.ref 0, .int (Int32.ofNat X)] (I, J, R) = _
      rw [qX7_ill_eq, yc_has v1 v3, xb_I1, if_pos hA, if_pos (by decide), p0, xb_V1, qX5_turnIll_eq, xb_V1, yc_bc, xb_I1]
      show some (some (Value.int (ybc (xq_upd Ia 15 2 (Ia 15 2 ^^^ ((1 : Int32) <<< (Int32.ofNat X &&& 31))) 15 2))), xq_upd Ia 15 2 (Ia 15 2 ^^^ ((1 : Int32) <<< (Int32.ofNat X &&& 31))), J, R) = _
      rw [xu_t, pn 15 2 (by decide)]
    · have g : ∀ k j, xv k j = true → k ≤ 14 ∨ 62 ≤ k → I1' k j = I k j := fun k j h1 h2 => by rw [he k j h1, xq_upd_n (by omega), pn k j (by omega)]
      have hil : I1' 15 2 = I 15 2 ^^^ ((1 : Int32) <<< (Int32.ofNat X &&& 31)) := by rw [he 15 2 rfl, xu_t]
      have hbil : yb I1' 15 2 0 255 := hB1.2.2.2.1
      have q24 : xq_upd I1' 94 11 0 94 24 = Int32.ofNat sz := by rw [xu_j (by decide), g 94 24 rfl (by decide), w5]
      have q3 : xq_upd I1' 94 11 0 94 3 = Int32.ofNat c := by rw [xu_j (by decide), g 94 3 rfl (by decide), v2]
      obtain ⟨Ib, r0, r1, r2, r3⟩ := yq_rem95 (d := 1) (J := J') (R := R') q24 w4
      have e95 : ∀ i, i < 27 → Ib 95 i = I 95 i := fun i hi => by rw [r2 95 i (by decide) (by omega), xu_k (by decide), g 95 i (y95_xv hi) (by decide)]
      have hE : ∀ r, r < 8 → I 95 (16 + r) = yIl (I 15 2) r := fun r hr => by rw [v10 (16 + r) (by omega), yq_s_3 hr]
      have hE2 : ∀ r, r < 8 → xq_upd Ib 95 (16 + X) (1 - Ib 95 (16 + X)) 95 (16 + r) = yIl (I 15 2 ^^^ ((1 : Int32) <<< (Int32.ofNat X &&& 31))) r := fun r hr => by
        rw [yIl_x (by omega) hr]
        by_cases e : r = X
        · rw [if_pos e, e, xu_t, e95 _ (by omega), hE X (by omega)]
        · rw [if_neg e, xu_j (by omega), e95 _ (by omega), hE r hr]
      have hE0 : ∀ r, r < 8 → c ≤ r → xq_upd Ib 95 (16 + X) (1 - Ib 95 (16 + X)) 95 (16 + r) = 0 := fun r hr hcr => by
        rw [xu_j (by omega), e95 _ (by omega)]
        exact ((v11.2 r hr).2.2 hcr).2
      refine ⟨ybc (I 15 2 ^^^ ((1 : Int32) <<< (Int32.ofNat X &&& 31))), xq_upd Ib 95 (16 + X) (1 - Ib 95 (16 + X)), ⟨J', R', ?_⟩, fun _ => rfl, fun I2' he2 hf2 hB2 => ?_⟩
      · show xq_D xqP 4 233 [.ref 94, .int (Int32.ofNat X)] (I1', J', R') = _
        have a16 : (16 : Int32) + Int32.ofNat X = Int32.ofNat (16 + X) := (Int32.ofNat_add 16 X).symm
        have b1 := xt_nat (n := 16 + X) (by omega)
        have b2 : (Int32.ofNat (16 + X)).toInt.toNat = 16 + X := by omega
        rw [qX8_ill_eq, yr_man q3 v3, xb_I1, if_pos hA, if_pos (by decide), r0, xb_V1, a16, b2, b1, if_pos (by omega), if_pos (by omega)]
        show xq_bI (xq_D xqP 3 234 [.ref 94, .ref 95] (xq_upd Ib 95 (16 + X) (1 - Ib 95 (16 + X)), J', R')) _ = _
        rw [yr_illBits (c := c) (il := I 15 2 ^^^ ((1 : Int32) <<< (Int32.ofNat X &&& 31))) (by rw [xu_k (by decide), r2 94 3 (by decide) (by decide), q3]) v3 hE2 hE0 (by rw [← hil]; exact hbil), xb_I1, yc_bc, xb_I1]
      · have t : ∀ k j, xv k j = true → ¬ 94 ≤ k → I2' k j = xq_upd Ia 15 2 (I 15 2 ^^^ ((1 : Int32) <<< (Int32.ofNat X &&& 31))) k j := fun k j h1 h2 => by rw [he2 k j h1, xq_upd_n (by omega), r2 k j (by omega) (by omega), xq_upd_n (by omega), he k j h1]
        have t36 : I2' 3 6 = I 3 6 := by rw [t 3 6 rfl (by decide), xq_upd_n (by omega), pn 3 6 (by decide)]
        have t95 : ∀ i, i < 27 → ¬ (16 ≤ i ∧ i < 24) → I2' 95 i = I 95 i := fun i hi h => by rw [he2 95 i (y95_xv hi), xu_j (by omega), e95 i hi]
        have t95i : ∀ r, r < 8 → I2' 95 (16 + r) = yIl (I2' 15 2) r := fun r hr => by rw [he2 95 _ (y95_xv (by omega)), hE2 r hr, t 15 2 rfl (by decide), xu_t]
        refine yF_NA ym_ill hf hf2 hF ⟨c, t36.trans v1, v3, y27 (fun i hi => ?_) (fun r hr => ?_) (fun r hr => ?_) ?_ ?_ ?_, fun i hi => ?_, fun r hr => ?_⟩ ?_
        · rw [t95 i (by omega) (by omega), v10 i (by omega), yq_s_1 hi, yq_s_1 hi, t 16 i (y16_xv hi) (by decide), xq_upd_n (by omega), pn 16 i (by decide)]
        · rw [t95 _ (by omega) (by omega), v10 _ (by omega), yq_s_2 hr, yq_s_2 hr, t 17 r (y17_xv hr) (by decide), xq_upd_n (by omega), pn 17 r (by decide)]
        · rw [t95i r hr, yq_s_3 hr]
        · rw [t95 24 (by decide) (by decide), v10 24 (by decide), yq_s_24, yq_s_24, t 15 3 rfl (by decide), xq_upd_n (by omega), pn 15 3 (by decide)]
        · rw [t95 25 (by decide) (by decide), v10 25 (by decide), yq_s_25, yq_s_25, t 15 4 rfl (by decide), xq_upd_n (by omega), pn 15 4 (by decide)]
        · rw [t95 26 (by decide) (by decide), v10 26 (by decide), yq_s_26, yq_s_26, t 15 5 rfl (by decide), xq_upd_n (by omega), pn 15 5 (by decide)]
        · rw [t95 i (by omega) (by omega)]
          exact v11.1 i hi
        · rw [t95 (8 + r) (by omega) (by omega)]
          obtain ⟨a1, a2, a3⟩ := v11.2 r hr
          refine ⟨a1, a2, fun z => ⟨(a3 z).1, ?_⟩⟩
          rw [he2 95 _ (y95_xv (by omega))]
          exact hE0 r hr z
        · refine yPush v1 v3 hW v10 v11 p1 p2 p3 ?_ ?_ (fun k j h => ?_) t36 ?_ (fun j hj i hi => ?_)
          · rw [t 24 1 rfl (by decide), xq_upd_n (by omega)]
          · rw [t 24 2 rfl (by decide), xq_upd_n (by omega)]
          · have h' := h
            obtain ⟨h1, h2, -⟩ := h'
            rw [t k j (ySA_xv h) (by omega), xq_upd_n (by omega)]
          · rw [he2 94 24 rfl, xq_upd_n (by omega), r1]
          · have hj12 : j < 12 := by split at hj <;> omega
            rw [he2 105 _ (y105_xv (by omega)), xq_upd_n (by omega), r3 j hj i hi]
            by_cases e : j = (if sz = 12 then 12 else sz + 1) - 1
            · rw [if_pos e, if_pos e, xu_k (by decide), g 95 i (y95_xv hi) (by decide)]
            · have hjb : 27 * (if sz = 12 then j + 1 else j) + i < 324 := by
                by_cases g : sz = 12
                · rw [if_pos g] at e hj ⊢
                  omega
                · rw [if_neg g]
                  omega
              rw [if_neg e, if_neg e, xu_k (by decide), g 105 _ (y105_xv hjb) (by decide)]
  · refine ⟨-1, I, ⟨J, R, ?_⟩, fun I1' he hf hB1 J' R' hR' => ?_⟩
    · show xq_D xqP 4 133 [.ref 0, .int x] (I, J, R) = _
      rw [qX7_ill_eq, yc_has v1 v3, xb_I1, if_neg hA, if_neg (by decide)]
    · have q3 : xq_upd I1' 94 11 0 94 3 = Int32.ofNat c := by rw [xu_j (by decide), he 94 3 rfl, v2]
      refine ⟨-1, xq_upd I1' 94 11 0, ⟨J', R', ?_⟩, fun _ => rfl, fun I2' he2 hf2 hB2 => ?_⟩
      · show xq_D xqP 4 233 [.ref 94, .int x] (I1', J', R') = _
        rw [qX8_ill_eq, yr_man q3 v3, xb_I1, if_neg hA, if_neg (by decide)]
      · exact yF_xv (fun k j h1 h2 => by rw [he2 k j h1, xq_upd_n h2, he k j h1]) hF
theorem yundo (hF : yF I) (hB : yBF I) : yRm yBF 3 178 k9X7_undo 1 295 k9X8_undo [] True yF I := by
  refine yRm_mk fun J R hR => ?_
  obtain ⟨c, n, v1, v2, v3, v4, v5, v6, v7, v8, v9, v10, v11⟩ := yV_of hF hB
  obtain ⟨nx, sz, hW⟩ := yPa_of hF.2.2.2.2.1 v1 v3
  obtain ⟨w1, w2, w3, w4, w5, w6⟩ := id hW
  obtain ⟨hp0, hp1⟩ := yq_pop (d := 0) (J := J) (R := R) w1 w2 w3 w4
  by_cases h0 : sz = 0
  · refine ⟨-1, I, ⟨J, R, ?_⟩, fun I1' he hf hB1 J' R' hR' => ?_⟩
    · show xq_D xqP 3 178 [.ref 0] (I, J, R) = _
      rw [qX7_undo_eq, hp0 h0, xb_I1]
    · refine ⟨-1, xq_upd I1' 94 11 0, ⟨J', R', (yq_undoR (d := 0) (I := I1') (J := J') (R := R') ((he 94 24 rfl).trans w5) w4).1 h0⟩, fun _ => rfl, fun I2' he2 hf2 hB2 => ?_⟩
      exact yF_xv (fun k j h1 h2 => by rw [he2 k j h1, xq_upd_n h2, he k j h1]) hF
  · obtain ⟨Ia, a0, a1, a2, a3⟩ := hp1 (by omega)
    refine ⟨Int32.ofNat (sz - 1), Ia, ⟨J, R, ?_⟩, fun I1' he hf hB1 J' R' hR' => ?_⟩
    · show xq_D xqP 3 178 [.ref 0] (I, J, R) = _
      rw [qX7_undo_eq, a0, xb_I1]
    · have g : ∀ k j, xv k j = true → k ≤ 14 ∨ 18 ≤ k → ¬ k = 24 → I1' k j = I k j := fun k j h1 h2 h3 => by rw [he k j h1, a3 k j h3, yq_cpn (by omega)]
      obtain ⟨Ib, b0, b1, b2, b3⟩ := (yq_undoR (d := 0) (I := I1') (J := J') (R := R') ((g 94 24 rfl (by decide) (by decide)).trans w5) w4).2 (by omega)
      refine ⟨Int32.ofNat (sz - 1), Ib, ⟨J', R', b0⟩, fun _ => rfl, fun I2' he2 hf2 hB2 => ?_⟩
      have t : ∀ k j, xv k j = true → ¬ k = 95 → ¬ k = 94 → I2' k j = I1' k j := fun k j h1 h2 h3 => by rw [he2 k j h1, b2 k j h2 (by omega)]
      have key := yq_pop_ok (I := I) (I2 := I2') v1 v3 w2 w4 (by omega) w6 (by rw [t 3 6 rfl (by decide) (by decide), g 3 6 rfl (by decide) (by decide)]) (by rw [t 24 1 rfl (by decide) (by decide), he 24 1 rfl, a1]) (by rw [t 24 2 rfl (by decide) (by decide), he 24 2 rfl, a2]) (by rw [he2 94 24 rfl, b1]) (fun k j h1 h2 h3 => by
        have hx : xv k j = true := ySA_xv ⟨h1, h2, h3⟩
        rw [t k j hx (by omega) (by omega), g k j hx (by omega) (by omega)]) (fun j hj => by rw [t 105 j (y105_xv hj) (by decide) (by decide), g 105 j (y105_xv hj) (by decide) (by decide)]) (fun k j h1 h2 h3 => by
        have hx : xv k j = true := by
          rcases (show k = 15 ∨ k = 16 ∨ k = 17 by omega) with rfl | rfl | rfl
          · exact y15_xv h3.1 h3.2
          · exact y16_xv h3
          · exact y17_xv h3
        rw [t k j hx (by omega) (by omega), he k j hx, a3 k j (by omega)]) (fun i hi => by rw [he2 95 i (y95_xv hi), b3 i hi, g 105 _ (y105_xv (by omega)) (by decide) (by decide)])
      exact yF_NA ym_undo hf hf2 hF key.2 key.1
end YU7
