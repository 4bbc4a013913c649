/-! sign(), end(), riders(), keep(), again(), purely -/
section YC
variable {d c : Nat} {I : Nat → Nat → Int32} {J : Nat → Nat → Int64} {R : Nat → Nat → Nat} {x y : Int32} {v w : Int64}
theorem yend (hP : yP I) (hB : yB I) : yRd yB 2 115 2 205 [x] False yP I := by
  refine yRd_mk fun J R hR => ?_
  obtain ⟨n, hn, hn8⟩ := ynat hB.2.2.2.1.1 hB.2.2.2.1.2
  have hn8 : n ≤ 80 := by omega
  have e0 : (0 : Int32).toInt = 0 := by decide
  have hq := hP.1
  unfold yP1 at hq
  by_cases hA : 0 ≤ x.toInt ∧ x.toInt ≤ (n : Int)
  · refine ⟨1, xq_upd I 1 1 x, ⟨J, R, ?_⟩, fun I1' he hB1 J' R' hR' => ?_⟩
    · show xq_D xqP 2 115 [.ref 0, .int x] (I, J, R) = _
      have e : (I, J, R).1 1 1 = Int32.ofNat n := hn
      rw [qX7_end_eq, qX6_cut_eq, e, if_neg (by rw [xt_lt, e0]; omega), if_pos (by rw [xt_le, xt_nat (by omega)]; omega), xb_I1, if_pos (Or.inr rfl)]
    · have hS : ∀ k j, yS k j → ¬ (k = 1 ∧ j = 1) → I1' k j = I k j := fun k j h h9 => by rw [he k j (yS_xv h), xq_upd_n h9]
      have h11 : I1' 1 1 = x := by rw [he 1 1 rfl, xu_t]
      have h8 : xq_upd I1' 94 11 0 94 8 = Int32.ofNat n := by rw [xu_j (by decide), hS 94 8 (by unfold yS; omega) (by omega), hq, hn]
      refine ⟨1, xq_upd (xq_upd I1' 94 11 0) 94 8 x, ⟨J', R', ?_⟩, fun h => h.elim, ?_⟩
      · show xq_D xqP 2 205 [.ref 94, .int x] (I1', J', R') = _
        rw [qX8_end_eq]
        show xq_bI (xq_D xqP 1 235 [.int x, .int 0, .int (xq_upd I1' 94 11 0 94 8)] _) _ = _
        rw [h8, xe_in, xb_I1, e0, xt_nat (by omega), if_pos hA, if_pos (by decide)]
      · have hP2 : yP (xq_upd I 1 1 (I 1 1)) := yP_cg (fun k j _ => by unfold xq_upd; grind) hP
        obtain ⟨h1, h2, h3, h4, h5, h6, h7⟩ := hP
        have hS2 : ∀ k j, yS k j → ¬ (k = 1 ∧ j = 1) → ¬ (k = 94 ∧ j = 8) → xq_upd (xq_upd I1' 94 11 0) 94 8 x k j = I k j := fun k j h h9 h8 => by
          rw [xq_upd_n h8, xq_upd_n (by unfold yS at h; omega), hS k j h h9]
        have key : yP (xq_upd (xq_upd I 1 1 x) 94 8 x) := by
          refine ⟨?_, fun i hi => ?_, ?_, fun r hr hc => ?_, ?_, ?_, fun i hi => ?_⟩
          · unfold yP1
            rw [xu_t, xq_upd_n (by omega), xu_t]
          · rw [xq_upd_n (by omega), xq_upd_n (by omega), xq_upd_n (by omega), xq_upd_n (by omega)]
            exact h2 i hi
          · unfold yP3
            rw [xq_upd_n (by omega), xq_upd_n (by omega), xq_upd_n (by omega), xq_upd_n (by omega)]
            exact h3
          · rw [xq_upd_n (by omega), xq_upd_n (by omega)] at hc
            rw [xq_upd_n (by omega), xq_upd_n (by omega), xq_upd_n (by omega), xq_upd_n (by omega), xq_upd_n (by omega), xq_upd_n (by omega), xq_upd_n (by omega), xq_upd_n (by omega), xq_upd_n (by omega), xq_upd_n (by omega), xq_upd_n (by omega), xq_upd_n (by omega)]
            exact h4 r hr hc
          · rw [xq_upd_n (by omega), xq_upd_n (by omega)]
            exact h5
          · rw [xq_upd_n (by omega), xq_upd_n (by omega), xq_upd_n (by omega), xq_upd_n (by omega)]
            exact h6
          · rw [xq_upd_n (by omega), xq_upd_n (by omega), xq_upd_n (by omega), xq_upd_n (by omega), xq_upd_n (by omega), xq_upd_n (by omega), xq_upd_n (by omega), xq_upd_n (by omega)]
            exact h7 i hi
        refine yP_cg (fun k j h => ?_) key
        by_cases g1 : k = 1 ∧ j = 1
        · obtain ⟨rfl, rfl⟩ := g1
          rw [xq_upd_n (by omega), xq_upd_n (by omega), h11, xq_upd_n (by omega), xu_t]
        · by_cases g2 : k = 94 ∧ j = 8
          · obtain ⟨rfl, rfl⟩ := g2
            rw [xu_t, xu_t]
          · rw [hS2 k j h g1 g2, xq_upd_n g2, xq_upd_n g1]
  · refine ⟨0, I, ⟨J, R, ?_⟩, fun I1' he hB1 J' R' hR' => ?_⟩
    · show xq_D xqP 2 115 [.ref 0, .int x] (I, J, R) = _
      have e : (I, J, R).1 1 1 = Int32.ofNat n := hn
      rw [qX7_end_eq, qX6_cut_eq, e]
      simp only [xt_lt, xt_le, xt_nat (show n < 2147483648 by omega), e0]
      by_cases g : x.toInt < 0
      · rw [if_pos g, xb_I1, if_pos (Or.inl rfl)]
      · rw [if_neg g, if_neg (by omega), xb_I1, if_pos (Or.inl rfl)]
    · have hS : ∀ k j, yS k j → I1' k j = I k j := fun k j h => he k j (yS_xv h)
      have h8 : xq_upd I1' 94 11 0 94 8 = Int32.ofNat n := by rw [xu_j (by decide), hS 94 8 (by unfold yS; omega), hq, hn]
      refine ⟨0, xq_upd I1' 94 11 0, ⟨J', R', ?_⟩, fun h => h.elim, ?_⟩
      · show xq_D xqP 2 205 [.ref 94, .int x] (I1', J', R') = _
        rw [qX8_end_eq]
        show xq_bI (xq_D xqP 1 235 [.int x, .int 0, .int (xq_upd I1' 94 11 0 94 8)] _) _ = _
        rw [h8, xe_in, xb_I1, e0, xt_nat (by omega), if_neg hA, if_neg (by decide)]
      · refine yP_cg (fun k j h => ?_) hP
        rw [xq_upd_n (by unfold yS at h; omega), hS k j h]
/-! riders() -/
theorem yriders (hP : yP I) (hB : yB I) : yRd yB 4 158 6 272 [] False yP I := by
  refine yRd_mk fun J R hR => ?_
  obtain ⟨c, hc, hc8⟩ := ynat hB.2.1.1 hB.2.1.2
  have hc8 : c ≤ 8 := by omega
  obtain ⟨n, hn, hn8⟩ := ynat hB.2.2.2.1.1 hB.2.2.2.1.2
  have hn8 : n ≤ 80 := by omega
  have hm : I 94 3 = Int32.ofNat c := hP.2.2.1.trans hc
  have ht : I 94 8 = Int32.ofNat n := hP.1.trans hn
  have ec : (I 3 6).toInt = (c : Int) := by rw [hc, xt_nat (by omega)]
  have em : (I 94 3).toInt = (c : Int) := by rw [hm, xt_nat (by omega)]
  by_cases h0 : n = 0
  · subst h0
    refine ⟨0, xq_upd I 1 1 0, ⟨J, R, xc_riders0 (d := 2) hn⟩, fun I1' he hB1 J' R' hR' => ?_⟩
    have hS : ∀ k j, yS k j → I1' k j = I k j := fun k j h => by
      rw [he k j (yS_xv h)]
      by_cases g : k = 1 ∧ j = 1
      · obtain ⟨rfl, rfl⟩ := g
        rw [xu_t, hn]
        rfl
      · rw [xq_upd_n g]
    obtain ⟨I2, R2, h1, h2, h3⟩ := xe_riders0 (d := 2) (I := I1') (J := J') (Rr := R') ((hS 94 8 (by unfold yS; omega)).trans ht)
    refine ⟨0, I2, ⟨J', R2, h1⟩, fun h => h.elim, yP_cg (fun k j h => ?_) hP⟩
    by_cases g : k = 94 ∧ j = 8
    · obtain ⟨rfl, rfl⟩ := g
      rw [h3, ht]
      rfl
    · rw [h2 k j (by unfold yS at h; omega) (by unfold yS at h; omega), hS k j h]
  · obtain ⟨a, I1, h1, hlo, hcP⟩ := xc_riders (d := 0) (I := I) (J := J) (Rr := R) hc8 hc hn hn8 (by omega)
    refine ⟨a, I1, ⟨J, R, h1⟩, fun I1' he hB1 J' R' hR' => ?_⟩
    have fr : ∀ k j, 94 ≤ k → xv k j = true → I1' k j = I k j := by
      intro k j hk hx
      rw [he k j hx]
      cases ho : xr_go c n (I 2) (0, 0, I 5, I 6, I 4) with
      | inl q =>
        rw [ho] at hcP
        exact hcP.2.1 k j (by omega) (by omega) (by omega) (by omega)
      | inr q =>
        rw [ho] at hcP
        exact hcP.2.2.2.1 k j (by omega) (by omega) (by omega) (by omega) (by omega) (by omega) (by omega)
    have f99 : ∀ i, i < 80 → I1' 99 i = I 99 i := fun i hi => fr 99 i (by decide) (xv_ar (t := 3) (n := 80) rfl (by omega) hi)
    obtain ⟨b, I2, R2, h2, hrP⟩ := xe_riders (d := 0) (c := c) (n0 := n) (I := I1') (J := J') (Rr := R') ((fr 94 3 (by decide) rfl).trans hm) ((fr 94 8 (by decide) rfl).trans ht) hc8 hn8 (by omega) (fun i hi => hB1.1 i hi) (I 5) (I 6) (I 4)
    refine ⟨b, I2, ⟨J', R2, h2⟩, fun h => h.elim, ?_⟩
    have hgo : xr_go c n (fun p => I1' 99 p &&& 255) (0, 0, I 5, I 6, I 4) = xr_go c n (I 2) (0, 0, I 5, I 6, I 4) := by
      refine xr_out_cg (fun p hp => ?_) _ _ _ (by omega)
      have hp80 : p < 80 := by split at hp <;> omega
      show I1' 99 p &&& 255 = I 2 p
      rw [f99 p hp80, hP.2.1 p hp80]
    rw [hgo] at hrP
    obtain ⟨p1, p2, p3, p4, p5, p6, p7⟩ := hP
    cases ho : xr_go c n (I 2) (0, 0, I 5, I 6, I 4) with
    | inl q =>
      rw [ho] at hcP hrP
      obtain ⟨-, c2, c3⟩ := hcP
      obtain ⟨-, r2, r3⟩ := hrP
      have g1 : ∀ k j, yS k j → ¬ k = 4 → ¬ k = 5 → ¬ k = 6 → ¬ (k = 1 ∧ j = 1) → I1' k j = I k j := fun k j h h4 h5 h6 h7 => by rw [he k j (yS_xv h), c2 k j h4 h5 h6 h7]
      have g2 : ∀ k j, yS k j → ¬ (k = 94 ∧ j = 8) → I2 k j = I1' k j := fun k j h h8 => r2 k j (by unfold yS at h; omega) (by unfold yS at h; omega)
      have g3 : ∀ k j, yS k j → ¬ k = 4 → ¬ k = 5 → ¬ k = 6 → ¬ (k = 1 ∧ j = 1) → ¬ (k = 94 ∧ j = 8) → I2 k j = I k j := fun k j h h4 h5 h6 h7 h8 => (g2 k j h h8).trans (g1 k j h h4 h5 h6 h7)
      have e11 : I2 1 1 = 0 := by rw [g2 1 1 (by unfold yS; omega) (by omega), he 1 1 rfl, c3]
      have e36 := g3 3 6 (by unfold yS; omega) (by omega) (by omega) (by omega) (by omega) (by omega)
      refine ⟨?_, fun i hi => ?_, ?_, fun r hr hcr => ?_, ?_, ?_, fun i hi => ?_⟩
      · unfold yP1
        rw [r3, e11]
      · rw [g3 2 i (by unfold yS; omega) (by omega) (by omega) (by omega) (by omega) (by omega), g3 99 i (by unfold yS; omega) (by omega) (by omega) (by omega) (by omega) (by omega)]
        exact p2 i hi
      · unfold yP3
        rw [e36, g3 94 3 (by unfold yS; omega) (by omega) (by omega) (by omega) (by omega) (by omega)]
        exact p3
      · rw [e36] at hcr
        obtain ⟨l5, l6, l4⟩ := hlo r (by omega)
        rw [g2 4 r (by unfold yS; omega) (by omega), g2 5 r (by unfold yS; omega) (by omega), g2 6 r (by unfold yS; omega) (by omega), he 4 r (yS_xv (by unfold yS; omega)), he 5 r (yS_xv (by unfold yS; omega)), he 6 r (yS_xv (by unfold yS; omega)), l4, l5, l6, g3 96 r (by unfold yS; omega) (by omega) (by omega) (by omega) (by omega) (by omega), g3 97 r (by unfold yS; omega) (by omega) (by omega) (by omega) (by omega) (by omega), g3 98 r (by unfold yS; omega) (by omega) (by omega) (by omega) (by omega) (by omega)]
        exact p4 r hr hcr
      · rw [g3 94 47 (by unfold yS; omega) (by omega) (by omega) (by omega) (by omega) (by omega)]
        exact p5
      · rw [g3 94 47 (by unfold yS; omega) (by omega) (by omega) (by omega) (by omega) (by omega), g3 94 3 (by unfold yS; omega) (by omega) (by omega) (by omega) (by omega) (by omega)]
        exact p6
      · rw [g3 94 47 (by unfold yS; omega) (by omega) (by omega) (by omega) (by omega) (by omega), g3 63 i (by unfold yS; omega) (by omega) (by omega) (by omega) (by omega) (by omega), g3 123 i (by unfold yS; omega) (by omega) (by omega) (by omega) (by omega) (by omega), g3 124 i (by unfold yS; omega) (by omega) (by omega) (by omega) (by omega) (by omega)]
        exact p7 i hi
    | inr q =>
      rw [ho] at hcP hrP
      obtain ⟨-, c2, c3, c4, c5, c6, c7, c8, c9, c10⟩ := hcP
      obtain ⟨-, r2, r3, r4, r5, r6, r7, r8, r9, r10⟩ := hrP
      have g1 : ∀ k j, yS k j → ¬ k = 4 → ¬ k = 5 → ¬ k = 6 → ¬ (k = 1 ∧ j = 1) → ¬ (k = 3 ∧ j = 6) → ¬ k = 63 → I1' k j = I k j := fun k j h h4 h5 h6 h7 h8 h9 => by rw [he k j (yS_xv h), c4 k j h4 h5 h6 h7 h8 (by unfold yS at h; omega) h9]
      have g2 : ∀ k j, yS k j → ¬ k = 96 → ¬ k = 97 → ¬ k = 98 → ¬ (k = 94 ∧ (j = 3 ∨ j = 8 ∨ j = 47)) → I2 k j = I1' k j := fun k j h h4 h5 h6 h8 => r3 k j (by unfold yS at h; omega) (by unfold yS at h; omega) h4 h5 h6 (by unfold yS at h; omega)
      have e11 : I2 1 1 = 0 := by rw [g2 1 1 (by unfold yS; omega) (by omega) (by omega) (by omega) (by omega), he 1 1 rfl, c5]
      have e36 : I2 3 6 = Int32.ofNat (c + q.2.1) := by rw [g2 3 6 (by unfold yS; omega) (by omega) (by omega) (by omega) (by omega), he 3 6 rfl, c6]
      have e47 : I1' 94 47 = I 94 47 := g1 94 47 (by unfold yS; omega) (by omega) (by omega) (by omega) (by omega) (by omega) (by omega)
      have n47 : (I 94 47 + 1).toInt = (I 94 47).toInt + 1 := by
        rw [xt_add (by simp; omega) (by simp; omega)]
        simp
      refine ⟨?_, fun i hi => ?_, ?_, fun r hr hcr => ?_, ?_, ?_, fun i hi => ?_⟩
      · unfold yP1
        rw [r4, e11]
      · rw [g2 2 i (by unfold yS; omega) (by omega) (by omega) (by omega) (by omega), g2 99 i (by unfold yS; omega) (by omega) (by omega) (by omega) (by omega), f99 i hi, g1 2 i (by unfold yS; omega) (by omega) (by omega) (by omega) (by omega) (by omega) (by omega)]
        exact p2 i hi
      · unfold yP3
        rw [r5, e36]
      · rw [e36, xt_nat (by omega)] at hcr
        obtain ⟨k5, k6, k4⟩ := c10 r
        rw [g2 4 r (by unfold yS; omega) (by omega) (by omega) (by omega) (by omega), g2 5 r (by unfold yS; omega) (by omega) (by omega) (by omega) (by omega), g2 6 r (by unfold yS; omega) (by omega) (by omega) (by omega) (by omega), he 4 r (yS_xv (by unfold yS; omega)), he 5 r (yS_xv (by unfold yS; omega)), he 6 r (yS_xv (by unfold yS; omega))]
        by_cases hrc : r < c
        · obtain ⟨l5, l6, l4⟩ := hlo r hrc
          obtain ⟨m1, m2, m3⟩ := r9 r hrc
          rw [l4, l5, l6, m1, m2, m3, g1 96 r (by unfold yS; omega) (by omega) (by omega) (by omega) (by omega) (by omega) (by omega), g1 97 r (by unfold yS; omega) (by omega) (by omega) (by omega) (by omega) (by omega) (by omega), g1 98 r (by unfold yS; omega) (by omega) (by omega) (by omega) (by omega) (by omega) (by omega)]
          exact p4 r hr (by omega)
        · obtain ⟨m1, m2, m3, -, -⟩ := r8 r (by omega) (by omega)
          rw [k4, k5, k6, m1, m2, m3]
          exact ⟨rfl, rfl, rfl⟩
      · rw [r7, e47, n47]
        omega
      · rw [r7, e47, n47, r5, xt_nat (by omega)]
        omega
      · obtain ⟨q1, q2⟩ := p7 i hi
        have i1 : I2 124 i = I 124 i := by rw [g2 124 i (by unfold yS; omega) (by omega) (by omega) (by omega) (by omega), g1 124 i (by unfold yS; omega) (by omega) (by omega) (by omega) (by omega) (by omega) (by omega)]
        have i2 : I2 63 i = 0 := by
          rw [g2 63 i (by unfold yS; omega) (by omega) (by omega) (by omega) (by omega), he 63 i (yS_xv (by unfold yS; omega))]
          rcases (show i = 0 ∨ i = 1 by omega) with rfl | rfl
          · exact c8
          · exact c9
        rw [i1, i2, r7, e47]
        refine ⟨by rw [n47]; omega, ⟨fun h => absurd rfl h, fun h => ?_⟩⟩
        have := h.2
        rw [this, n47] at q1
        omega
end YC
