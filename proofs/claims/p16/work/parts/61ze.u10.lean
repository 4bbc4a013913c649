/-! set(), riders() with all that is kept -/
noncomputable def ym_PLNAK (k1 k2 : Nat) : Bool := (xt_m k1 oP9 aP9 && xt_m k2 oP9 aP9) && ((xt_m k1 oL9 aL9 && xt_m k2 oL9 aL9) && ((xt_m k1 oN9 aN9 && xt_m k2 oN9 aN9) && ((xt_m k1 oA9 aA9 && xt_m k2 oA9 aA9) && (xt_m k1 oK9 aK9 && xt_m k2 oK9 aK9))))
set_option maxRecDepth 100000 in
theorem ym_set : ym_PLNAK k9X7_set k9X8_set = true := by decide +kernel
set_option maxRecDepth 100000 in
theorem ym_ridersH : ((xt_m k9X7_riders oH9 aH9 && xt_m k9X8_riders oH9 aH9) && (xt_m k9X7_riders oL9 aL9 && xt_m k9X8_riders oL9 aL9)) = true := by decide +kernel
section YU10
variable {d c n nx sz k1 k2 X : Nat} {I I' I1 I2 Ia : Nat → Nat → Int32} {J : Nat → Nat → Int64} {R : Nat → Nat → Nat} {x y il : Int32} {S : xq_S} {src : Nat → Int32}
theorem yF_H (hm : ym_PLNAK k1 k2 = true) (f1 : xz_fr k1 I I1) (f2 : xz_fr k2 I1 I2) (hF : yF I) (hH : yHb I2) : yF I2 := by
  unfold ym_PLNAK at hm
  simp only [Bool.and_eq_true] at hm
  obtain ⟨⟨a1, a2⟩, ⟨b1, b2⟩, ⟨c1, c2⟩, ⟨d1, d2⟩, e1, e2⟩ := hm
  exact ⟨yP_T (yfr2 xP9 a1 a2 f1 f2) hF.1, hH, yL_T (yfr2 xL9 b1 b2 f1 f2) hF.2.2.1, yN_T (yfr2 xN9 c1 c2 f1 f2) hF.2.2.2.1, yA_T (yfr2 xA9 d1 d2 f1 f2) hF.2.2.2.2.1, yK_T (yfr2 xK9 e1 e2 f1 f2) hF.2.2.2.2.2⟩
theorem yc_set : xq_D xqP (d + 1) 164 [.ref 0, .int x, .int y] (I, J, R) = if x = 0 ∧ 1 ≤ y.toInt ∧ y.toInt ≤ 8 then some (some (.int (I 3 7)), xq_upd I 3 7 y, J, R) else if x = 1 ∧ 0 ≤ y.toInt ∧ y.toInt ≤ 9 then some (some (.int (I 3 8)), xq_upd I 3 8 y, J, R) else some (some (.int (-1)), I, J, R) := by
  have e0 : (0 : Int32).toInt = 0 := by decide
  have e1 : (1 : Int32).toInt = 1 := by decide
  have e8 : (8 : Int32).toInt = 8 := by decide
  have e9 : (9 : Int32).toInt = 9 := by decide
  have h36 : qX7_set_h36 d x y (-1) (I, J, R) = if x = 1 ∧ 0 ≤ y.toInt ∧ y.toInt ≤ 9 then some (some (.int (I 3 8)), xq_upd I 3 8 y, J, R) else some (some (.int (-1)), I, J, R) := by
    rw [qX7_set_h36_eq]
    simp only [xt_lt, e0, e9]
    by_cases h1 : x = 1
    · rw [if_neg (fun z => z h1)]
      by_cases h2 : y.toInt < 0
      · rw [if_pos h2, if_neg (by omega)]
      · rw [if_neg h2]
        by_cases h3 : 9 < y.toInt
        · rw [if_pos h3, if_neg (by omega)]
        · rw [if_neg h3, if_pos ⟨h1, by omega, by omega⟩]
    · rw [if_pos h1, if_neg (fun z => h1 z.1)]
  rw [qX7_set_eq]
  simp only [xt_lt, e1, e8]
  by_cases h1 : x = 0
  · rw [if_neg (fun z => z h1)]
    by_cases h2 : y.toInt < 1
    · rw [if_pos h2, h36, if_neg (c := x = 0 ∧ 1 ≤ y.toInt ∧ y.toInt ≤ 8) (by omega)]
    · rw [if_neg h2]
      by_cases h3 : 8 < y.toInt
      · rw [if_pos h3, h36, if_neg (c := x = 0 ∧ 1 ≤ y.toInt ∧ y.toInt ≤ 8) (by omega)]
      · rw [if_neg h3, if_pos (c := x = 0 ∧ 1 ≤ y.toInt ∧ y.toInt ≤ 8) ⟨h1, by omega, by omega⟩]
  · rw [if_pos h1, h36, if_neg (c := x = 0 ∧ 1 ≤ y.toInt ∧ y.toInt ≤ 8) (fun z => h1 z.1)]
theorem yr_set : xq_D xqP (d + 2) 277 [.ref 94, .int x, .int y] (I, J, R) = if x = 0 ∧ 1 ≤ y.toInt ∧ y.toInt ≤ 8 then some (some (.int (I 94 1)), xq_upd (xq_upd I 94 11 0) 94 1 y, J, R) else if x = 1 ∧ 0 ≤ y.toInt ∧ y.toInt ≤ 9 then some (some (.int (I 94 2)), xq_upd (xq_upd I 94 11 0) 94 2 y, J, R) else some (some (.int (-1)), xq_upd I 94 11 0, J, R) := by
  have e0 : (0 : Int32).toInt = 0 := by decide
  have e1 : (1 : Int32).toInt = 1 := by decide
  have e8 : (8 : Int32).toInt = 8 := by decide
  have e9 : (9 : Int32).toInt = 9 := by decide
  rw [qX8_set_eq]
  by_cases h1 : x = 0
  · rw [if_neg (fun z => z h1), xe_in, xb_I1, e1, e8]
    by_cases h2 : 1 ≤ y.toInt ∧ y.toInt ≤ 8
    · rw [if_pos h2, if_pos (by decide), qX8_set_h39_eq, if_neg (fun z => z h1), qX8_set_h54_eq, if_neg (fun z => z h1), if_pos (c := x = 0 ∧ 1 ≤ y.toInt ∧ y.toInt ≤ 8) ⟨h1, h2⟩]
      show some (some (Value.int (xq_upd I 94 11 0 94 1)), _) = _
      rw [xu_j (by decide)]
    · rw [if_neg h2, if_neg (by decide), if_neg (c := x = 0 ∧ 1 ≤ y.toInt ∧ y.toInt ≤ 8) (fun z => h2 z.2), if_neg (c := x = 1 ∧ 0 ≤ y.toInt ∧ y.toInt ≤ 9) (fun z => by rw [h1] at z; exact absurd z.1 (by decide))]
  · rw [if_pos h1]
    by_cases h3 : x = 1
    · rw [if_neg (fun z => z h3), xe_in, xb_I1, e0, e9, if_neg (c := x = 0 ∧ 1 ≤ y.toInt ∧ y.toInt ≤ 8) (fun z => h1 z.1)]
      by_cases h2 : 0 ≤ y.toInt ∧ y.toInt ≤ 9
      · rw [if_pos h2, if_pos (by decide), qX8_set_h39_eq, if_pos h1, qX8_set_h54_eq, if_pos h1, if_pos ⟨h3, h2⟩]
        show some (some (Value.int (xq_upd I 94 11 0 94 2)), _) = _
        rw [xu_j (by decide)]
      · rw [if_neg h2, if_neg (by decide), if_neg (fun z => h2 z.2)]
    · rw [if_pos h3, if_neg (c := x = 0 ∧ 1 ≤ y.toInt ∧ y.toInt ≤ 8) (fun z => h1 z.1), if_neg (fun z => h3 z.1)]
theorem ysetF (hF : yF I) (hB : yBF I) : yRm yBF 1 164 k9X7_set 2 277 k9X8_set [x, y] True yF I := by
  refine yRm_mk fun J R hR => ?_
  obtain ⟨p1, p2⟩ := hF.2.1
  have hc := yc_set (d := 0) (I := I) (J := J) (R := R) (x := x) (y := y)
  by_cases h1 : x = 0 ∧ 1 ≤ y.toInt ∧ y.toInt ≤ 8
  · rw [if_pos h1] at hc
    refine ⟨_, _, ⟨J, R, hc⟩, fun I1' he hf hB1 J' R' hR' => ?_⟩
    have hr := yr_set (d := 0) (I := I1') (J := J') (R := R') (x := x) (y := y)
    rw [if_pos h1] at hr
    refine ⟨_, _, ⟨J', R', hr⟩, fun _ => ?_, fun I2' he2 hf2 hB2 => yF_H ym_set hf hf2 hF ⟨?_, ?_⟩⟩
    · rw [he 94 1 rfl, xu_k (by decide), p1]
    · rw [he2 94 1 rfl, xu_t, he2 3 7 rfl, xu_k (by decide), xu_k (by decide), he 3 7 rfl, xu_t]
    · rw [he2 94 2 rfl, xu_j (by decide), xu_j (by decide), he2 3 8 rfl, xu_k (by decide), xu_k (by decide), he 3 8 rfl, xu_j (by decide), he 94 2 rfl, xu_k (by decide), p2]
  rw [if_neg h1] at hc
  by_cases h2 : x = 1 ∧ 0 ≤ y.toInt ∧ y.toInt ≤ 9
  · rw [if_pos h2] at hc
    refine ⟨_, _, ⟨J, R, hc⟩, fun I1' he hf hB1 J' R' hR' => ?_⟩
    have hr := yr_set (d := 0) (I := I1') (J := J') (R := R') (x := x) (y := y)
    rw [if_neg h1, if_pos h2] at hr
    refine ⟨_, _, ⟨J', R', hr⟩, fun _ => ?_, fun I2' he2 hf2 hB2 => yF_H ym_set hf hf2 hF ⟨?_, ?_⟩⟩
    · rw [he 94 2 rfl, xu_k (by decide), p2]
    · rw [he2 94 1 rfl, xu_j (by decide), xu_j (by decide), he2 3 7 rfl, xu_k (by decide), xu_k (by decide), he 3 7 rfl, xu_j (by decide), he 94 1 rfl, xu_k (by decide), p1]
    · rw [he2 94 2 rfl, xu_t, he2 3 8 rfl, xu_k (by decide), xu_k (by decide), he 3 8 rfl, xu_t]
  · rw [if_neg h2] at hc
    refine ⟨_, _, ⟨J, R, hc⟩, fun I1' he hf hB1 J' R' hR' => ?_⟩
    have hr := yr_set (d := 0) (I := I1') (J := J') (R := R') (x := x) (y := y)
    rw [if_neg h1, if_neg h2] at hr
    refine ⟨_, _, ⟨J', R', hr⟩, fun _ => rfl, fun I2' he2 hf2 hB2 => ?_⟩
    exact yF_xv (fun k j h1 h2 => by rw [he2 k j h1, xq_upd_n h2, he k j h1]) hF
theorem yridersF (hF : yF I) (hB : yBF I) : yRm yBF 4 158 k9X7_riders 6 272 k9X8_riders [] False yF I := by
  have hm := ym_ridersH
  simp only [Bool.and_eq_true] at hm
  obtain ⟨⟨a1, a2⟩, b1, b2⟩ := hm
  obtain ⟨c, n, v1, v2, v3, v4, v5, v6, v7, v8, v9, v10, v11⟩ := yV_of hF hB
  obtain ⟨nx, sz, w1, w2, w3, w4, w5, w6⟩ := yPa_of hF.2.2.2.2.1 v1 v3
  obtain ⟨c', m1, m2, m3⟩ := hF.2.2.2.2.2
  have : c' = c := xr_nat_inj (by omega) (by omega) (m1.symm.trans v1)
  subst this
  intro J R hR
  obtain ⟨a, I1, J1, R1, h1, h2⟩ := yriders hF.1 hB.1.1 J R hR
  refine ⟨a, I1, J1, R1, h1, fun I1' he hf hB1 J' R' hR' => ?_⟩
  obtain ⟨b, I2, J2, R2, h3, -, h5⟩ := h2 I1' he hB1.1.1 J' R' hR'
  refine ⟨b, I2, J2, R2, h3, fun z => z.elim, fun I2' he2 hf2 hB2 => ?_⟩
  have hPe := yP_e2 he2 h5
  have hHe := yHb_T (yfr2 xH9 a1 a2 hf hf2) hF.2.1
  have hLe := yL_T (yfr2 xL9 b1 b2 hf hf2) hF.2.2.1
  obtain ⟨n0, hn, hn80⟩ := ynat hB.1.1.2.2.2.1.1 hB.1.1.2.2.2.1.2
  have ht : I 94 8 = Int32.ofNat n0 := hF.1.1.trans hn
  have hNAK : (∀ k j, yT oN9 aN9 k j ∨ yT oA9 aA9 k j ∨ yT oK9 aK9 k j → I2' k j = I k j) → yF I2' := fun h => ⟨hPe, hHe, hLe, yN_T (fun k j q => h k j (Or.inl q)) hF.2.2.2.1, yA_T (fun k j q => h k j (Or.inr (Or.inl q))) hF.2.2.2.2.1, yK_T (fun k j q => h k j (Or.inr (Or.inr q))) hF.2.2.2.2.2⟩
  have hxT : ∀ k j, yT oN9 aN9 k j ∨ yT oA9 aA9 k j ∨ yT oK9 aK9 k j → xv k j = true ∧ ¬ (4 ≤ k ∧ k ≤ 6) ∧ ¬ k = 1 ∧ ¬ k = 101 ∧ (k = 94 → j = 24) := by
    have key : ∀ o a : List (Nat × Nat), (o.all (fun q => Bool.not (Nat.ble 4 q.1 && Nat.ble q.1 6) && (Bool.not (Nat.beq q.1 1) && (Bool.not (Nat.beq q.1 101) && (Bool.not (Nat.beq q.1 94) || Nat.beq q.2 24)))) && a.all (fun q => Bool.not (Nat.ble 4 q.1 && Nat.ble q.1 6) && (Bool.not (Nat.beq q.1 1) && (Bool.not (Nat.beq q.1 101) && Bool.not (Nat.beq q.1 94))))) = true → ∀ k j, yT o a k j → ¬ (4 ≤ k ∧ k ≤ 6) ∧ ¬ k = 1 ∧ ¬ k = 101 ∧ (k = 94 → j = 24) := by
      intro o a h k j hk
      rw [Bool.and_eq_true, List.all_eq_true, List.all_eq_true] at h
      have hb : ∀ a b : Nat, (Bool.not (Nat.beq a b)) = true → ¬ a = b := fun a b h z => by
        rw [z, Nat.beq_refl] at h
        cases h
      have hl : ∀ k : Nat, (Bool.not (Nat.ble 4 k && Nat.ble k 6)) = true → ¬ (4 ≤ k ∧ k ≤ 6) := fun k h z => by
        rw [Nat.ble_eq_true_of_le z.1, Nat.ble_eq_true_of_le z.2] at h
        cases h
      rcases hk with hk | ⟨m, hk, _⟩
      · have h9 := h.1 _ hk
        simp only [Bool.and_eq_true] at h9
        obtain ⟨g1, g2, g3, g4⟩ := h9
        refine ⟨hl _ g1, hb _ _ g2, hb _ _ g3, fun z => ?_⟩
        rw [Bool.or_eq_true] at g4
        rcases g4 with g4 | g4
        · exact absurd z (hb _ _ g4)
        · exact Nat.eq_of_beq_eq_true g4
      · have h9 := h.2 _ hk
        simp only [Bool.and_eq_true] at h9
        obtain ⟨g1, g2, g3, g4⟩ := h9
        exact ⟨hl _ g1, hb _ _ g2, hb _ _ g3, fun z => absurd z (hb _ _ g4)⟩
    intro k j h
    rcases h with h | h | h
    · exact ⟨xt_xv xN9 h, key _ _ (by decide +kernel) k j h⟩
    · exact ⟨xt_xv xA9 h, key _ _ (by decide +kernel) k j h⟩
    · exact ⟨xt_xv xK9 h, key _ _ (by decide +kernel) k j h⟩
  by_cases h0 : n0 = 0
  · subst h0
    have e1 := h1.symm.trans (xc_riders0 (d := 2) (Rr := R) hn)
    simp only [Option.some.injEq, Prod.mk.injEq] at e1
    obtain ⟨-, rfl, -, -⟩ := e1
    have ht1 : I1' 94 8 = 0 := by rw [he 94 8 rfl, xu_k (by decide), ht]; rfl
    obtain ⟨I8, R8, r1, r2, r3⟩ := xe_riders0 (d := 2) (I := I1') (J := J') (Rr := R') ht1
    have e2 := h3.symm.trans r1
    simp only [Option.some.injEq, Prod.mk.injEq] at e2
    obtain ⟨-, rfl, -, -⟩ := e2
    refine hNAK fun k j h => ?_
    obtain ⟨q1, q2, q3, q4, q5⟩ := hxT k j h
    rw [he2 k j q1, r2 k j q4 (by omega), he k j q1, xq_upd_n (by omega)]
  · obtain ⟨a9, I9, q0, hlo, hcP⟩ := xc_riders (d := 0) (I := I) (J := J) (Rr := R) v3 v1 hn (by omega) (by omega)
    have e1 := h1.symm.trans q0
    simp only [Option.some.injEq, Prod.mk.injEq] at e1
    obtain ⟨-, rfl, -, -⟩ := e1
    have fr : ∀ k j, 94 ≤ k → xv k j = true → I1' k j = I k j := by
      intro k j hk hx
      rw [he k j hx]
      cases ho : xr_go c' n0 (I 2) (0, 0, I 5, I 6, I 4) with
      | inl q =>
        rw [ho] at hcP
        exact hcP.2.1 k j (by omega) (by omega) (by omega) (by omega)
      | inr q =>
        rw [ho] at hcP
        exact hcP.2.2.2.1 k j (by omega) (by omega) (by omega) (by omega) (by omega) (by omega) (by omega)
    have f99 : ∀ i, i < 80 → I1' 99 i = I 99 i := fun i hi => fr 99 i (by decide) (xv_ar (t := 3) (n := 80) rfl (by omega) hi)
    obtain ⟨b9, I8, R8, r0, hrP⟩ := xe_riders (d := 0) (c := c') (n0 := n0) (I := I1') (J := J') (Rr := R') ((fr 94 3 (by decide) rfl).trans v2) ((fr 94 8 (by decide) rfl).trans ht) v3 (by omega) (by omega) (fun i hi => hB1.1.1.1 i hi) (I 5) (I 6) (I 4)
    have e2 := h3.symm.trans r0
    simp only [Option.some.injEq, Prod.mk.injEq] at e2
    obtain ⟨-, rfl, -, -⟩ := e2
    have hgo : xr_go c' n0 (fun p => I1' 99 p &&& 255) (0, 0, I 5, I 6, I 4) = xr_go c' n0 (I 2) (0, 0, I 5, I 6, I 4) := by
      refine xr_out_cg (fun p hp => ?_) _ _ _ (by omega)
      have hp80 : p < 80 := by split at hp <;> omega
      show I1' 99 p &&& 255 = I 2 p
      rw [f99 p hp80, hF.1.2.1 p hp80]
    rw [hgo] at hrP
    cases ho : xr_go c' n0 (I 2) (0, 0, I 5, I 6, I 4) with
    | inl q =>
      rw [ho] at hcP hrP
      obtain ⟨-, c2, -⟩ := hcP
      obtain ⟨-, r2, -⟩ := hrP
      refine hNAK fun k j h => ?_
      obtain ⟨q1, q2, q3, q4, q5⟩ := hxT k j h
      rw [he2 k j q1, r2 k j q4 (by omega), he k j q1, c2 k j (by omega) (by omega) (by omega) (by omega)]
    | inr q =>
      rw [ho] at hcP hrP
      obtain ⟨-, c0, c1, c2, -, c36, c24, c630, c631, -⟩ := hcP
      obtain ⟨-, r1, r2, -, -, r24, -, r95, -, r95n⟩ := hrP
      have g1 : ∀ k j, xv k j = true → ¬ (4 ≤ k ∧ k ≤ 6) → ¬ k = 1 → ¬ (k = 3 ∧ j = 6) → ¬ (k = 24 ∧ j = 2) → ¬ k = 63 → I1' k j = I k j := fun k j h0 h1 h2 h3 h4 h5 => by rw [he k j h0, c2 k j (by omega) (by omega) (by omega) (by omega) h3 h4 h5]
      have g2 : ∀ k j, xv k j = true → ¬ (95 ≤ k ∧ k ≤ 98) → ¬ k = 94 → ¬ k = 101 → I2' k j = I1' k j := fun k j h0 h1 h2 h3 => by rw [he2 k j h0, r2 k j h3 (by omega) (by omega) (by omega) (by omega) (by omega)]
      have e36 : I2' 3 6 = Int32.ofNat (c' + q.2.1) := by rw [g2 3 6 rfl (by first | decide | omega) (by first | decide | omega) (by first | decide | omega), he 3 6 rfl, c36]
      have e95 : ∀ i, i < 27 → I2' 95 i = I 95 i := fun i hi => by
        rw [he2 95 i (y95_xv hi)]
        by_cases h8 : 8 + c' ≤ i ∧ i < 8 + (c' + q.2.1)
        · have h9 := (r95 (i - 8) (by omega) (by omega)).2.2.2.1
          rw [show 8 + (i - 8) = i by omega] at h9
          have h7 := ((v11.2 (i - 8) (by omega)).2.2 (by omega)).1
          rw [show 8 + (i - 8) = i by omega] at h7
          rw [h9, h7]
        · by_cases h16 : 16 + c' ≤ i ∧ i < 16 + (c' + q.2.1)
          · have h9 := (r95 (i - 16) (by omega) (by omega)).2.2.2.2
            rw [show 16 + (i - 16) = i by omega] at h9
            have h7 := ((v11.2 (i - 16) (by omega)).2.2 (by omega)).2
            rw [show 16 + (i - 16) = i by omega] at h7
            rw [h9, h7]
          · rw [r95n i (by omega) (by omega), g1 95 i (y95_xv hi) (by first | decide | omega) (by first | decide | omega) (by first | decide | omega) (by first | decide | omega) (by first | decide | omega)]
      refine ⟨hPe, hHe, hLe, ⟨c' + q.2.1, e36, c1, fun i hi => ?_, yq_w_cg e95 (yq_w_up (by omega) v11)⟩, ⟨c' + q.2.1, nx, 0, e36, c1, ?_, w2, ?_, Nat.zero_le _, ?_, fun j hj => absurd hj (Nat.not_lt_zero j)⟩, ⟨c' + q.2.1, e36, c1, fun k hk hz => ?_⟩⟩
      · rw [e95 i hi, v10 i hi]
        refine (yq_s_cg (fun j hj => ⟨?_, ?_⟩) (fun j h1 h2 => ?_) hi).symm
        · rw [g2 16 j (y16_xv hj) (by first | decide | omega) (by first | decide | omega) (by first | decide | omega), g1 16 j (y16_xv hj) (by first | decide | omega) (by first | decide | omega) (by first | decide | omega) (by first | decide | omega) (by first | decide | omega)]
        · rw [g2 17 j (y17_xv hj) (by first | decide | omega) (by first | decide | omega) (by first | decide | omega), g1 17 j (y17_xv hj) (by first | decide | omega) (by first | decide | omega) (by first | decide | omega) (by first | decide | omega) (by first | decide | omega)]
        · rw [g2 15 j (y15_xv h1 h2) (by first | decide | omega) (by first | decide | omega) (by first | decide | omega), g1 15 j (y15_xv h1 h2) (by first | decide | omega) (by first | decide | omega) (by first | decide | omega) (by first | decide | omega) (by first | decide | omega)]
      · rw [g2 24 1 rfl (by first | decide | omega) (by first | decide | omega) (by first | decide | omega), g1 24 1 rfl (by first | decide | omega) (by first | decide | omega) (by first | decide | omega) (by first | decide | omega) (by first | decide | omega), w1]
      · rw [g2 24 2 rfl (by first | decide | omega) (by first | decide | omega) (by first | decide | omega), he 24 2 rfl, c24]
        rfl
      · rw [he2 94 24 rfl, r24]
        rfl
      · rw [g2 63 k (y63_xv hk) (by first | decide | omega) (by first | decide | omega) (by first | decide | omega), he 63 k (y63_xv hk)] at hz
        rcases (show k = 0 ∨ k = 1 by omega) with rfl | rfl
        · exact absurd c630 hz
        · exact absurd c631 hz
end YU10
