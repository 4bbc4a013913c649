/-! rota(): the round -/
section YU16
variable {I : Nat → Nat → Int32}
theorem yNA_x : ∀ k j, yT oN9 aN9 k j ∨ yT oA9 aA9 k j → xv k j = true ∧ ¬ (4 ≤ k ∧ k ≤ 6) ∧ ¬ k = 1 ∧ ¬ k = 101 ∧ (k = 94 → j = 24) := by
  have key : ∀ o a : List (Nat × Nat), (o.all (fun q => Bool.not (Nat.ble 4 q.1 && Nat.ble q.1 6) && (Bool.not (Nat.beq q.1 1) && (Bool.not (Nat.beq q.1 101) && (Bool.not (Nat.beq q.1 94) || Nat.beq q.2 24)))) && a.all (fun q => Bool.not (Nat.ble 4 q.1 && Nat.ble q.1 6) && (Bool.not (Nat.beq q.1 1) && (Bool.not (Nat.beq q.1 101) && Bool.not (Nat.beq q.1 94))))) = true → ∀ k j, yT o a k j → ¬ (4 ≤ k ∧ k ≤ 6) ∧ ¬ k = 1 ∧ ¬ k = 101 ∧ (k = 94 → j = 24) := by
    intro o a h k j hk
    rw [Bool.and_eq_true, List.all_eq_true, List.all_eq_true] at h
    have hb : ∀ a b : Nat, (Bool.not (Nat.beq a b)) = true → ¬ a = b := fun a b h z => by
      rw [z, Nat.beq_refl] at h
      cases h
    have hl : ∀ k : Nat, (Bool.not (Nat.ble 4 k && Nat.ble k 6)) = true → ¬ (4 ≤ k ∧ k ≤ 6) := fun k h z => by
      rw [Nat.ble_eq_true_of_le z.1, Nat.ble_eq_true_of_le z.2] at h
      cases h
    rcases hk with hk | ⟨m, hk, _⟩
    · have h9 := h.1 _ hk
      simp only [Bool.and_eq_true] at h9
      obtain ⟨g1, g2, g3, g4⟩ := h9
      refine ⟨hl _ g1, hb _ _ g2, hb _ _ g3, fun z => ?_⟩
      rw [Bool.or_eq_true] at g4
      rcases g4 with g4 | g4
      · exact absurd z (hb _ _ g4)
      · exact Nat.eq_of_beq_eq_true g4
    · have h9 := h.2 _ hk
      simp only [Bool.and_eq_true] at h9
      obtain ⟨g1, g2, g3, g4⟩ := h9
      exact ⟨hl _ g1, hb _ _ g2, hb _ _ g3, fun z => absurd z (hb _ _ g4)⟩
  intro k j h
  rcases h with h | h
  · exact ⟨xt_xv xN9 h, key _ _ (by decide +kernel) k j h⟩
  · exact ⟨xt_xv xA9 h, key _ _ (by decide +kernel) k j h⟩
theorem yrotaF (hF : yF I) (hB : yBF I) : yRm yBF 3 159 k9X7_rota 4 273 k9X8_rota [] False yF I := by
  refine yRm_mk fun J R hR => ?_
  obtain ⟨c, n, v1, v2, v3, v4, v5, v6, v7, v8, v9, v10, v11⟩ := yV_of hF hB
  obtain ⟨nx, sz, w1, w2, w3, w4, w5, w6⟩ := yPa_of hF.2.2.2.2.1 v1 v3
  obtain ⟨n0, hn, hn80⟩ := ynat hB.1.1.2.2.2.1.1 hB.1.1.2.2.2.1.2
  have ht : I 94 8 = Int32.ofNat n0 := hF.1.1.trans hn
  have hT2 : ∀ i, i < 80 → 0 ≤ (I 2 i).toInt ∧ (I 2 i).toInt ≤ 255 := fun i hi => by
    rw [hF.1.2.1 i hi]
    exact yk_and
  have x99 : ∀ i, i < 80 → xv 99 i = true := fun i hi => xt_xv xP9 (Or.inr ⟨80, by decide, hi⟩)
  by_cases hS : n0 = n ∧ ∀ i, i < n → yro c (I 2 i)
  · obtain ⟨a, Ic, It, c0, c11, c1, c2, c3, cs, c16, cn⟩ := yc_rotas (d := 0) (J := J) (R := R) v3 v1 hn v4 (by omega) v7 hT2 w1 w2 w3 w4 hS
    refine ⟨a, Ic, ⟨J, R, c0⟩, fun I1' he hf hB1 J' R' hR' => ?_⟩
    have g : ∀ k j, xv k j = true → ¬ k = 16 → ¬ (18 ≤ k ∧ k ≤ 20) → ¬ k = 24 → ¬ (26 ≤ k ∧ k ≤ 61) → ¬ (k = 1 ∧ j = 1) → I1' k j = I k j := fun k j h1 h2 h3 h4 h5 h6 => by rw [he k j h1, c3 k j h4 h6, yq_cpn (by omega), cn k j h2 h3]
    have h99 : ∀ i, i < 80 → I1' 99 i = I 99 i := fun i hi => g 99 i (x99 i hi) (by decide) (by decide) (by decide) (by decide) (by omega)
    obtain ⟨b, Ir, Rr, r0, r8, hr⟩ := yr_rota (d := 0) (I := I1') (J := J') (R := R') v3 ((g 94 3 rfl (by decide) (by decide) (by decide) (by decide) (by decide)).trans v2) ((g 94 8 rfl (by decide) (by decide) (by decide) (by decide) (by decide)).trans ht) ((g 94 1 rfl (by decide) (by decide) (by decide) (by decide) (by decide)).trans v5) (by omega) v7 (fun i hi => hB1.1.1.1 i hi) ((g 94 24 rfl (by decide) (by decide) (by decide) (by decide) (by decide)).trans w5) w4
    refine ⟨b, Ir, ⟨J', Rr, r0⟩, fun z => z.elim, fun I2' he2 hf2 hB2 => ?_⟩
    have hyv : ∀ i, i < n → I1' 99 i &&& 255 = I 2 i := fun i hi => by rw [h99 i (by omega), ← hF.1.2.1 i (by omega)]
    rcases hr with ⟨hz, -⟩ | ⟨-, r24, r95, r95n, r105, rn⟩
    · exact absurd ⟨hS.1, fun i hi => by rw [hyv i hi]; exact hS.2 i hi⟩ hz
    · have t : ∀ k j, xv k j = true → ¬ k = 101 → ¬ k = 95 → ¬ k = 105 → ¬ k = 94 → I2' k j = I1' k j := fun k j h1 h2 h3 h4 h5 => by rw [he2 k j h1, rn k j h2 h3 h4 (by omega)]
      have e36 : I2' 3 6 = I 3 6 := by rw [t 3 6 rfl (by decide) (by decide) (by decide) (by decide), g 3 6 rfl (by decide) (by decide) (by decide) (by decide) (by decide)]
      have t16 : ∀ i, i < 8 → I2' 16 i = if i < n then yrv (I 2 i) else -1 := fun i hi => by rw [t 16 i (y16_xv hi) (by decide) (by decide) (by decide) (by decide), he 16 i (y16_xv hi), c3 16 i (by decide) (by omega), yq_cpn (by omega), c16 i hi]
      have t95 : ∀ i, i < 8 → I2' 95 i = if i < n then yrv (I 2 i) else -1 := fun i hi => by
        rw [he2 95 i (y95_xv (by omega)), r95 i hi]
        by_cases e : i < n
        · rw [if_pos e, if_pos e, hyv i e]
        · rw [if_neg e, if_neg e]
      have t95n : ∀ i, i < 27 → 8 ≤ i → I2' 95 i = I 95 i := fun i hi h => by rw [he2 95 i (y95_xv hi), r95n i h, g 95 i (y95_xv hi) (by decide) (by decide) (by decide) (by decide) (by omega)]
      refine yF_QNA ym_rota hf hf2 hF ?_ ⟨c, e36.trans v1, v3, fun i hi => ?_, fun i hi => ?_, fun r hr => ?_⟩ ?_
      · rw [he2 94 8 rfl, r8, t 1 1 rfl (by decide) (by decide) (by decide) (by decide), he 1 1 rfl, c11]
      · by_cases h : i < 8
        · rw [t95 i h, yq_s_1 h, t16 i h]
        · rw [t95n i hi (by omega), v10 i hi]
          refine (yq_s_hi (fun j hj => ?_) (fun j h1 h2 => ?_) (by omega) hi).symm
          · rw [t 17 j (y17_xv hj) (by decide) (by decide) (by decide) (by decide), g 17 j (y17_xv hj) (by decide) (by decide) (by decide) (by decide) (by omega)]
          · rw [t 15 j (y15_xv h1 h2) (by decide) (by decide) (by decide) (by decide), g 15 j (y15_xv h1 h2) (by decide) (by decide) (by decide) (by decide) (by omega)]
      · rw [t95 i hi]
        have em : (-1 : Int32).toInt = -1 := by decide
        by_cases e : i < n
        · rw [if_pos e]
          rcases yrv_r v3 (hS.2 i e) with h | ⟨-, h⟩
          · exact h
          · rw [h]
            omega
        · rw [if_neg e]
          omega
      · rw [t95n (8 + r) (by omega) (by omega), t95n (16 + r) (by omega) (by omega)]
        exact v11.2 r hr
      · have ct : ∀ k j, k ≤ 15 ∨ 21 ≤ k → It k j = I k j := fun k j h => cn k j (by omega) (by omega)
        refine yq_push_ok (I := It) (I2 := I2') (kf := 18) (src := I 95) ((ct 3 6 (by decide)).trans v1) v3 ((ct 24 1 (by decide)).trans w1) w2 ((ct 24 2 (by decide)).trans w3) w4 (fun j hj => ?_) (by decide) (fun i hi => by rw [v10 i hi, cs i hi]) v11 (e36.trans (ct 3 6 (by decide)).symm) ?_ ?_ ?_ (fun k j h1 h2 h3 => ?_) (fun j hj i hi => ?_)
        · obtain ⟨m1, m2⟩ := w6 j hj
          refine ⟨fun i hi => ?_, yq_w_cg (fun i hi => ct 105 _ (by decide)) m2⟩
          rw [ct 105 _ (by decide), m1 i hi]
          exact (yq_s_cg (fun j hj => ⟨ct _ _ (by omega), ct _ _ (by omega)⟩) (fun j _ _ => ct _ _ (by omega)) hi).symm
        · rw [t 24 1 rfl (by decide) (by decide) (by decide) (by decide), he 24 1 rfl, c1]
        · rw [t 24 2 rfl (by decide) (by decide) (by decide) (by decide), he 24 2 rfl, c2]
        · rw [he2 94 24 rfl, r24]
        · have hx : xv k j = true := ySA_xv ⟨h1, h2, h3⟩
          have hk : ¬ k = 24 := by omega
          rw [t k j hx (by omega) (by omega) (by omega) (by omega), he k j hx, c3 k j hk (by omega)]
        · have hj12 : j < 12 := by split at hj <;> omega
          rw [he2 105 _ (y105_xv (by omega)), r105 j hj i hi]
          by_cases e : j = (if sz = 12 then 12 else sz + 1) - 1
          · rw [if_pos e, if_pos e, g 95 i (y95_xv hi) (by decide) (by decide) (by decide) (by decide) (by omega)]
          · have hjb : 27 * (if sz = 12 then j + 1 else j) + i < 324 := by
              by_cases g : sz = 12
              · rw [if_pos g] at e hj ⊢
                omega
              · rw [if_neg g]
                omega
            rw [if_neg e, if_neg e, g 105 _ (y105_xv hjb) (by decide) (by decide) (by decide) (by decide) (by omega), ct 105 _ (by decide)]
  · obtain ⟨a, c0⟩ := yc_rotan (d := 0) (J := J) (R := R) v3 v1 hn v4 (by omega) v7 hT2 hS
    refine ⟨a, _, ⟨J, R, c0⟩, fun I1' he hf hB1 J' R' hR' => ?_⟩
    have g : ∀ k j, xv k j = true → ¬ (k = 1 ∧ j = 1) → I1' k j = I k j := fun k j h1 h6 => by rw [he k j h1, xq_upd_n h6]
    have h99 : ∀ i, i < 80 → I1' 99 i = I 99 i := fun i hi => g 99 i (x99 i hi) (by omega)
    obtain ⟨b, Ir, Rr, r0, r8, hr⟩ := yr_rota (d := 0) (I := I1') (J := J') (R := R') v3 ((g 94 3 rfl (by decide)).trans v2) ((g 94 8 rfl (by decide)).trans ht) ((g 94 1 rfl (by decide)).trans v5) (by omega) v7 (fun i hi => hB1.1.1.1 i hi) ((g 94 24 rfl (by decide)).trans w5) w4
    refine ⟨b, Ir, ⟨J', Rr, r0⟩, fun z => z.elim, fun I2' he2 hf2 hB2 => ?_⟩
    rcases hr with ⟨-, rn⟩ | ⟨hz, -⟩
    · have h8 : I2' 94 8 = I2' 1 1 := by rw [he2 94 8 rfl, r8, he2 1 1 rfl, rn 1 1 (by decide) (by decide), he 1 1 rfl, xu_t]
      have t : ∀ k j, xv k j = true → ¬ k = 101 → ¬ k = 1 → (k = 94 → j = 24) → I2' k j = I k j := fun k j h1 h2 h3 h4 => by rw [he2 k j h1, rn k j h2 (by omega), g k j h1 (by omega)]
      refine yF_QNA ym_rota hf hf2 hF h8 (yN_T (fun k j h => ?_) hF.2.2.2.1) (yA_T (fun k j h => ?_) hF.2.2.2.2.1)
      · obtain ⟨q1, q2, q3, q4, q5⟩ := yNA_x k j (Or.inl h)
        exact t k j q1 q4 q3 q5
      · obtain ⟨q1, q2, q3, q4, q5⟩ := yNA_x k j (Or.inr h)
        exact t k j q1 q4 q3 q5
    · refine absurd ⟨hz.1, fun i hi => ?_⟩ hS
      rw [hF.1.2.1 i (by omega), ← h99 i (by omega)]
      exact hz.2 i hi
end YU16
