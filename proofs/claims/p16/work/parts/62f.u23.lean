/-! year(): the round with all that is kept -/
theorem yT_k {o a : List (Nat × Nat)} {x : Nat} (h : (o.all (fun q => Bool.not (Nat.beq q.1 x)) && a.all (fun q => Bool.not (Nat.beq q.1 x))) = true) {k j : Nat} (hk : yT o a k j) : ¬ k = x := by
  rw [Bool.and_eq_true, List.all_eq_true, List.all_eq_true] at h
  rintro rfl
  rcases hk with hk | ⟨n, hk, _⟩
  · have h9 : Bool.not (Nat.beq k k) = true := h.1 _ hk
    rw [Nat.beq_refl] at h9
    cases h9
  · have h9 : Bool.not (Nat.beq k k) = true := h.2 _ hk
    rw [Nat.beq_refl] at h9
    cases h9
section YU23
variable {I : Nat → Nat → Int32}
theorem yNA_y : ∀ k j, yT oN9 aN9 k j ∨ yT oA9 aA9 k j → xv k j = true ∧ ¬ k = 1 ∧ ¬ k = 110 ∧ (k = 94 → j = 24) := by
  intro k j h
  obtain ⟨q1, -, q3, -, q5⟩ := yNA_x k j h
  refine ⟨q1, q3, ?_, q5⟩
  rcases h with h | h
  · exact yT_k (by decide +kernel) h
  · exact yT_k (by decide +kernel) h
theorem yyearF (hF : yF I) (hB : yBF I) : yRm yBF 8 181 k9X7_year 177 299 k9X8_year [] True yF I := by
  refine yRm_mk fun J R hR => ?_
  obtain ⟨c, n, v1, v2, v3, v4, v5, v6, v7, v8, v9, v10, v11⟩ := yV_of hF hB
  obtain ⟨nx, sz, w1, w2, w3, w4, w5, w6⟩ := yPa_of hF.2.2.2.2.1 v1 v3
  obtain ⟨q, m0, val, l1, l2, l3, l4, hL⟩ := yLv_of hF.2.2.1
  obtain ⟨n0, hn, hn80⟩ := ynat hB.1.1.2.2.2.1.1 hB.1.1.2.2.2.1.2
  have hn80 : n0 ≤ 80 := by omega
  have ht : I 94 8 = Int32.ofNat n0 := hF.1.1.trans hn
  have hs15 : yq_w c (yq_s I 15) := yq_w_cg (fun i hi => (v10 i hi).symm) v11
  have x99 : ∀ i, i < 80 → xv 99 i = true := fun i hi => xt_xv xP9 (Or.inr ⟨80, by decide, hi⟩)
  have x102 : ∀ i, i < 40 → xv 102 i = true := fun i hi => xt_xv xL9 (Or.inr ⟨40, by decide, hi⟩)
  have x98 : ∀ i, i < 8 → xv 98 i = true ∧ xv 96 i = true ∧ xv 97 i = true := fun i hi => ⟨xt_xv xP9 (Or.inr ⟨8, by decide, hi⟩), xt_xv xP9 (Or.inr ⟨8, by decide, hi⟩), xt_xv xP9 (Or.inr ⟨8, by decide, hi⟩)⟩
  have e0 : (0 : Int32).toInt = 0 := by decide
  have h21 : I 94 21 = 0 := by
    obtain ⟨h1, h2⟩ := hB.1.2.2.2.2.2.2.1
    rw [xt_eq, e0]
    omega
  -- what the reference makes of it
  have ref : ∀ (I1' : Nat → Nat → Int32) (J' : Nat → Nat → Int64) (R' : Nat → Nat → Nat), xz_R R' → yBF I1' → (∀ k j, xv k j = true → 94 ≤ k → I1' k j = I k j) → ∃ (I' : Nat → Nat → Int32) (J2 : Nat → Nat → Int64) (R2 : Nat → Nat → Nat), xq_D xqP 177 299 [.ref 94] (I1', J', R') = some (some (.int (yaZ c n0 (yaT I n0))), I', J2, R2) ∧ I' 94 8 = 0 ∧ ((∃ qf, yar (yaT I n0) n0 80 0 0 = .inl qf ∧ ∀ k j, ¬ k = 110 → ¬ (k = 94 ∧ (j = 8 ∨ j = 11 ∨ j = 13 ∨ j = 14 ∨ j = 15 ∨ j = 16)) → I' k j = I1' k j) ∨ ∃ K I2 Ib, yar (yaT I n0) n0 80 0 0 = .inr K ∧ (∀ k, k < 27 → I2 95 k = yYS n c (I 3 8) (I 98) (I 96) (I 97) val (yaT I n0) K 0 (yq_s I 15) k) ∧ (∀ k, k < 27 → I2 106 k = I 95 k) ∧ yfZ I1' I2 ∧ (yaN c (yaT I n0) K 0 = 0 → Ib = I2) ∧ (0 < yaN c (yaT I n0) K 0 → Ib 94 24 = Int32.ofNat (if sz = 12 then 12 else sz + 1) ∧ (∀ k j, ¬ k = 105 → ¬ (k = 94 ∧ j = 24) → Ib k j = I2 k j) ∧ ∀ j, j < (if sz = 12 then 12 else sz + 1) → ∀ i, i < 27 → Ib 105 (27 * j + i) = if j = (if sz = 12 then 12 else sz + 1) - 1 then I2 106 i else I2 105 (27 * (if sz = 12 then j + 1 else j) + i)) ∧ ∀ k j, ¬ (k = 94 ∧ j = 10) → I' k j = Ib k j) := by
    intro I1' J' R' hR' hB1 g
    have g95 : ∀ i, i < 27 → I1' 95 i = I 95 i := fun i hi => g 95 i (y95_xv hi) (by decide)
    have eT : yk_t I1' 99 n0 60 = yaT I n0 := by
      funext p
      unfold yk_t yaT
      by_cases hp : p < n0 ∧ p < 60
      · rw [if_pos hp, if_pos hp, g 99 p (x99 p (by omega)) (by decide), hF.1.2.1 p (by omega)]
      · rw [if_neg hp, if_neg hp]
    have hT0 : yk_t I1' 102 m0 40 = yk_t I 102 m0 40 := by
      funext p
      unfold yk_t
      by_cases hp : p < m0 ∧ p < 40
      · rw [if_pos hp, if_pos hp, g 102 p (x102 p hp.2) (by decide)]
      · rw [if_neg hp, if_neg hp]
    have hw1 : yq_w c (I1' 95) := yq_w_cg g95 v11
    obtain ⟨I', J2, R2, k0, k8, hk⟩ := yr_yearW (d := 0) (I := I1') (J := J') (R := R') (M := sz) v7 v3 l4 hn80 ((g 94 8 rfl (by decide)).trans ht) (fun i hi => hB1.1.1.1 i hi) ((g 94 24 rfl (by decide)).trans w5) w4 ⟨(g 94 1 rfl (by decide)).trans v5, (g 94 3 rfl (by decide)).trans v2, (g 94 20 rfl (by decide)).trans l3, (g 94 21 rfl (by decide)).trans h21, hR'.2.2.1, fun i hi => hB1.1.2.2.2.2.2.2.2.2.2 i hi, fun i hi => by rw [g95 i (by omega)]; have := v11.1 i hi; omega⟩ (by rw [hT0]; exact hL) hw1
    rw [eT] at k0 hk
    refine ⟨I', J2, R2, k0, k8, ?_⟩
    rcases hk with hk | ⟨K, I2, Ib, k1, k2, k3, k4, k5, k6, k7⟩
    · exact Or.inl hk
    · refine Or.inr ⟨K, I2, Ib, k1, fun k hk => ?_, fun k hk => (k3 k hk).trans (g95 k hk), k4, k5, k6, k7⟩
      rw [k2 k hk, (g 94 2 rfl (by decide)).trans v8]
      exact yYS_cg v3 v7 (fun r hr => ⟨g 98 r (x98 r hr).1 (by decide), g 96 r (x98 r hr).2.1 (by decide), g 97 r (x98 r hr).2.2 (by decide)⟩) K 0 _ _ (fun i hi => (g95 i hi).trans (v10 i hi)) hw1 k hk
  cases hr : yar (yaT I n0) n0 80 0 0 with
  | inl qf =>
    refine ⟨_, _, ⟨J, R, yc_yearE (d := 0) (c := c) hn80 hn hr⟩, fun I1' he hf hB1 J' R' hR' => ?_⟩
    have g : ∀ k j, xv k j = true → ¬ (k = 1 ∧ j = 1) → I1' k j = I k j := fun k j h1 h6 => by rw [he k j h1, xq_upd_n h6]
    obtain ⟨I2, J2, R2, k0, k8, hk⟩ := ref I1' J' R' hR' hB1 (fun k j h1 h2 => g k j h1 (by omega))
    refine ⟨_, I2, ⟨J2, R2, k0⟩, fun _ => rfl, fun I2' he2 hf2 hB2 => ?_⟩
    rcases hk with ⟨qf', -, rn⟩ | ⟨K, _, _, z, -⟩
    · have h8 : I2' 94 8 = I2' 1 1 := by rw [he2 94 8 rfl, k8, he2 1 1 rfl, rn 1 1 (by decide) (by decide), he 1 1 rfl, xu_t]
      have t : ∀ k j, xv k j = true → ¬ k = 110 → ¬ k = 1 → (k = 94 → j = 24) → I2' k j = I k j := fun k j h1 h2 h3 h4 => by rw [he2 k j h1, rn k j h2 (by omega), g k j h1 (by omega)]
      refine yF_QNA ym_year hf hf2 hF h8 (yN_T (fun k j h => ?_) hF.2.2.2.1) (yA_T (fun k j h => ?_) hF.2.2.2.2.1)
      · obtain ⟨q1, q3, q4, q5⟩ := yNA_y k j (Or.inl h)
        exact t k j q1 q4 q3 q5
      · obtain ⟨q1, q3, q4, q5⟩ := yNA_y k j (Or.inr h)
        exact t k j q1 q4 q3 q5
    · rw [hr] at z
      cases z
  | inr K =>
    obtain ⟨Ic, Ia, Id, J1, c0, c1, c2, c3, c4, c5, c6, c7⟩ := yc_yearK (d := 0) (J := J) (R := R) (ca := I 98) (mo := I 96) (wi := I 97) v7 v3 l2 hn80 hn ⟨v4, v1, l1, hR.1⟩ w1 w2 w3 w4 hL v9 hs15 hr
    refine ⟨_, Id, ⟨J1, R, c0⟩, fun I1' he hf hB1 J' R' hR' => ?_⟩
    have ga : ∀ k j, ¬ k = 24 → ¬ (26 ≤ k ∧ k ≤ 61) → Ia k j = Ic k j := fun k j h1 h2 => by
      by_cases hD : yaN c (yaT I n0) K 0 = 0
      · rw [c4 hD]
      · rw [(c5 (by omega)).2.2 k j h1, yq_cpn (by omega)]
    have ct : ∀ k j, 21 ≤ k ∨ (k = 3 ∧ j = 6) → Ic k j = I k j := fun k j h => c3 k j (by omega) (by omega) (by omega) (by omega) (by omega) (by omega)
    have g1 : ∀ k j, xv k j = true → ¬ (k = 1 ∧ j = 1) → ¬ (k = 78 ∧ j = 1) → I1' k j = Ia k j := fun k j h1 h2 h3 => by rw [he k j h1, c7 k j h2 h3]
    have g94 : ∀ k j, xv k j = true → 94 ≤ k → I1' k j = I k j := fun k j h1 h2 => by rw [g1 k j h1 (by omega) (by omega), ga k j (by omega) (by omega), ct k j (by omega)]
    obtain ⟨I2, J2, R2, k0, k8, hk⟩ := ref I1' J' R' hR' hB1 g94
    refine ⟨_, I2, ⟨J2, R2, k0⟩, fun _ => rfl, fun I2' he2 hf2 hB2 => ?_⟩
    rcases hk with ⟨qf, z, -⟩ | ⟨K', Ir, Ib, z, r1, r2, r3, r4, r5, r6⟩
    · rw [hr] at z
      cases z
    · rw [hr] at z
      cases z
      have rb : ∀ k j, ¬ k = 105 → ¬ (k = 94 ∧ (j = 24 ∨ j = 10)) → I2 k j = Ir k j := fun k j h1 h2 => by
        rw [r6 k j (by omega)]
        by_cases hD : yaN c (yaT I n0) K 0 = 0
        · rw [r4 hD]
        · rw [(r5 (by omega)).2.1 k j h1 (by omega)]
      have t : ∀ k j, xv k j = true → k < 94 → I2' k j = I1' k j := fun k j h1 h2 => by rw [he2 k j h1, rb k j (by omega) (by omega), r3 k j (by omega) (by omega) (by omega) (by omega) (by omega) (by omega) (by omega)]
      have e36 : I2' 3 6 = I 3 6 := by rw [t 3 6 rfl (by decide), g1 3 6 rfl (by decide) (by decide), ga 3 6 (by decide) (by decide), ct 3 6 (by decide)]
      have t95 : ∀ i, i < 27 → I2' 95 i = yYS n c (I 3 8) (I 98) (I 96) (I 97) val (yaT I n0) K 0 (yq_s I 15) i := fun i hi => by rw [he2 95 i (y95_xv hi), rb 95 i (by decide) (by omega), r1 i hi]
      have t15 : ∀ i, i < 27 → yq_s I2' 15 i = yYS n c (I 3 8) (I 98) (I 96) (I 97) val (yaT I n0) K 0 (yq_s I 15) i := fun i hi => by
        rw [← c1 i hi]
        refine yq_s_cg (fun j hj => ⟨?_, ?_⟩) (fun j h1 h2 => ?_) hi
        · rw [t 16 j (y16_xv hj) (by decide), g1 16 j (y16_xv hj) (by omega) (by omega), ga 16 j (by decide) (by decide)]
        · rw [t 17 j (y17_xv hj) (by decide), g1 17 j (y17_xv hj) (by omega) (by omega), ga 17 j (by decide) (by decide)]
        · rw [t 15 j (y15_xv h1 h2) (by decide), g1 15 j (y15_xv h1 h2) (by omega) (by omega), ga 15 j (by decide) (by decide)]
      refine yF_QNA ym_year hf hf2 hF ?_ ⟨c, e36.trans v1, v3, fun i hi => by rw [t95 i hi, t15 i hi], yq_w_cg t95 (yYS_w v3 v7 K 0 _ hs15)⟩ ?_
      · rw [he2 94 8 rfl, k8, t 1 1 rfl (by decide), he 1 1 rfl, c6]
      · have sA : ∀ k j, xv k j = true → ySA k j ∨ k = 24 → I2' k j = Ia k j := fun k j h1 h2 => by
          have h3 : 24 ≤ k ∧ k ≤ 61 := by
            rcases h2 with h2 | h2
            · obtain ⟨a, b, -⟩ := h2
              omega
            · omega
          rw [t k j h1 (by omega), g1 k j h1 (by omega) (by omega)]
        have r105 : ∀ j, j < 324 → Ir 105 j = I 105 j := fun j hj => by rw [r3 105 j (by decide) (by decide) (by decide) (by decide) (by decide) (by decide) (by omega), g94 105 j (y105_xv hj) (by decide)]
        have r9424 : Ir 94 24 = Int32.ofNat sz := by rw [r3 94 24 (by decide) (by decide) (by decide) (by decide) (by decide) (by decide) (by decide), g94 94 24 rfl (by decide), w5]
        by_cases hD : yaN c (yaT I n0) K 0 = 0
        · have hIa := c4 hD
          have hIb := r4 hD
          refine yPa_cg e36 ?_ ?_ ?_ (fun k j h1 h2 h3 => ?_) (fun j hj => ?_) ⟨c, nx, sz, v1, v3, w1, w2, w3, w4, w5, w6⟩
          · rw [sA 24 1 rfl (Or.inr rfl), hIa, ct 24 1 (by decide)]
          · rw [sA 24 2 rfl (Or.inr rfl), hIa, ct 24 2 (by decide)]
          · rw [he2 94 24 rfl, r6 94 24 (by decide), hIb, r9424, w5]
          · rw [sA k j (ySA_xv ⟨h1, h2, h3⟩) (Or.inl ⟨h1, h2, h3⟩), hIa, ct k j (by omega)]
          · rw [he2 105 j (y105_xv hj), r6 105 j (by omega), hIb, r105 j hj]
        · obtain ⟨p1, p2, p3⟩ := c5 (by omega)
          obtain ⟨u1, u2, u3⟩ := r5 (by omega)
          refine yq_push_ok (I := Ic) (I2 := I2') (kf := 18) (src := I 95) ((ct 3 6 (by decide)).trans v1) v3 ((ct 24 1 (by decide)).trans w1) w2 ((ct 24 2 (by decide)).trans w3) w4 (fun j hj => ?_) (by decide) (fun i hi => by rw [v10 i hi, c2 i hi]) v11 (e36.trans (ct 3 6 (by decide)).symm) ?_ ?_ ?_ (fun k j h1 h2 h3 => ?_) (fun j hj i hi => ?_)
          · obtain ⟨m1, m2⟩ := w6 j hj
            refine ⟨fun i hi => ?_, yq_w_cg (fun i hi => ct 105 _ (by omega)) m2⟩
            rw [ct 105 _ (by omega), m1 i hi]
            exact (yq_s_cg (fun j hj => ⟨ct _ _ (by omega), ct _ _ (by omega)⟩) (fun j _ _ => ct _ _ (by omega)) hi).symm
          · rw [sA 24 1 rfl (Or.inr rfl), p1]
          · rw [sA 24 2 rfl (Or.inr rfl), p2]
          · rw [he2 94 24 rfl, r6 94 24 (by decide), u1]
          · rw [sA k j (ySA_xv ⟨h1, h2, h3⟩) (Or.inl ⟨h1, h2, h3⟩), p3 k j (by omega)]
          · have hj12 : j < 12 := by split at hj <;> omega
            rw [he2 105 _ (y105_xv (by omega)), r6 105 _ (by omega), u3 j hj i hi]
            by_cases e : j = (if sz = 12 then 12 else sz + 1) - 1
            · rw [if_pos e, if_pos e, r2 i hi]
            · have hjb : 27 * (if sz = 12 then j + 1 else j) + i < 324 := by
                by_cases g : sz = 12
                · rw [if_pos g] at e hj ⊢
                  omega
                · rw [if_neg g]
                  omega
              rw [if_neg e, if_neg e, r105 _ hjb, ct 105 _ (by omega)]
end YU23
