/-! again(), keep(), sign(), end() with all that is kept -/
set_option maxRecDepth 100000 in
theorem ym_again : ym_NA k9X7_again k9X8_again = true := by decide +kernel
noncomputable def ym_HLNA (k1 k2 : Nat) : Bool := (xt_m k1 oH9 aH9 && xt_m k2 oH9 aH9) && ((xt_m k1 oL9 aL9 && xt_m k2 oL9 aL9) && ((xt_m k1 oN9 aN9 && xt_m k2 oN9 aN9) && (xt_m k1 oA9 aA9 && xt_m k2 oA9 aA9)))
set_option maxRecDepth 100000 in
theorem ym_keep : ym_HLNA k9X7_keep k9X8_keep = true := by decide +kernel
noncomputable def ym_HLNAK (k1 k2 : Nat) : Bool := ym_HLNA k1 k2 && (xt_m k1 oK9 aK9 && xt_m k2 oK9 aK9)
set_option maxRecDepth 100000 in
theorem ym_sign : ym_HLNAK k9X7_sign k9X8_sign = true := by decide +kernel
set_option maxRecDepth 100000 in
theorem ym_end : ym_HLNAK k9X7_end k9X8_end = true := by decide +kernel
section YU9
variable {d c n nx sz k1 k2 X : Nat} {I I' I1 I2 Ia : Nat → Nat → Int32} {J : Nat → Nat → Int64} {R : Nat → Nat → Nat} {x y il : Int32} {S : xq_S} {src : Nat → Int32}
theorem yP_e2 (h : xz_eq I I') (hP : yP I) : yP I' := yP_cg (fun k j hk => h k j (yS_xv hk)) hP
theorem yF_lift (hm : ym_HLNAK k1 k2 = true) (f1 : xz_fr k1 I I1) (f2 : xz_fr k2 I1 I2) (hF : yF I) (hP : yP I2) : yF I2 := by
  unfold ym_HLNAK ym_HLNA at hm
  simp only [Bool.and_eq_true] at hm
  obtain ⟨⟨⟨a1, a2⟩, ⟨b1, b2⟩, ⟨c1, c2⟩, d1, d2⟩, e1, e2⟩ := hm
  exact ⟨hP, yHb_T (yfr2 xH9 a1 a2 f1 f2) hF.2.1, yL_T (yfr2 xL9 b1 b2 f1 f2) hF.2.2.1, yN_T (yfr2 xN9 c1 c2 f1 f2) hF.2.2.2.1, yA_T (yfr2 xA9 d1 d2 f1 f2) hF.2.2.2.2.1, yK_T (yfr2 xK9 e1 e2 f1 f2) hF.2.2.2.2.2⟩
theorem ysignF (hF : yF I) (hB : yBF I) : yRm yBF 2 167 k9X7_sign 1 280 k9X8_sign [x] False yF I := yRm_of (fun _ h => h.1.1) (ysign hF.1 hB.1.1) (fun _ _ _ f1 _ hP he f2 _ => yF_lift ym_sign f1 f2 hF (yP_e2 he hP))
theorem yendF (hF : yF I) (hB : yBF I) : yRm yBF 2 115 k9X7_end 2 205 k9X8_end [x] False yF I := yRm_of (fun _ h => h.1.1) (yend hF.1 hB.1.1) (fun _ _ _ f1 _ hP he f2 _ => yF_lift ym_end f1 f2 hF (yP_e2 he hP))
def ySK (k j : Nat) : Prop := 88 ≤ k ∧ k ≤ 93 ∧ (if (k - 88) % 3 = 0 then 2 ≤ j ∧ j ≤ 5 else j < 8)
theorem ySK_xv {k j : Nat} (h : ySK k j) : xv k j = true := by
  obtain ⟨h1, h2, h3⟩ := h
  by_cases g : (k - 88) % 3 = 0
  · have hm := (yK_mem k (by omega) h1).1 g
    rw [if_pos g] at h3
    obtain ⟨m1, m2, m3, m4⟩ := hm
    have : j = 2 ∨ j = 3 ∨ j = 4 ∨ j = 5 := by omega
    rcases this with rfl | rfl | rfl | rfl
    · exact xt_xv xK9 (Or.inl m1)
    · exact xt_xv xK9 (Or.inl m2)
    · exact xt_xv xK9 (Or.inl m3)
    · exact xt_xv xK9 (Or.inl m4)
  · have hm := (yK_mem k (by omega) h1).2 g
    rw [if_neg g] at h3
    exact xt_xv xK9 (Or.inr ⟨8, hm, h3⟩)
theorem y63_xv {j : Nat} (h : j < 2) : xv 63 j = true := xt_xv xK9 (Or.inr ⟨2, by decide, h⟩)
theorem y122_xv {j : Nat} (h : j < 54) : xv 122 j = true := xt_xv xK9 (Or.inr ⟨54, by decide, h⟩)
theorem y123_xv {j : Nat} (h : j < 2) : xv 123 j = true ∧ xv 124 j = true := ⟨xt_xv xP9 (Or.inr ⟨2, by decide, h⟩), xt_xv xP9 (Or.inr ⟨2, by decide, h⟩)⟩
theorem yq_sK {k : Nat} (hk : k < 2) (h : ∀ k' j, 88 + 3 * k ≤ k' → k' ≤ 90 + 3 * k → ySK k' j → I' k' j = I k' j) {i : Nat} (hi : i < 27) : yq_s I' (88 + 3 * k) i = yq_s I (88 + 3 * k) i := yq_s_cg (fun j hj => ⟨h _ _ (by omega) (by omega) ⟨by omega, by omega, by rw [if_neg (by omega)]; exact hj⟩, h _ _ (by omega) (by omega) ⟨by omega, by omega, by rw [if_neg (by omega)]; exact hj⟩⟩) (fun j h1 h2 => h _ _ (by omega) (by omega) ⟨by omega, by omega, by rw [if_pos (by omega)]; exact ⟨h1, h2⟩⟩) hi
theorem yc_againv (hX : X < 2) (hf : ¬ I 63 X = 0) : xq_D xqP (d + 2) 103 [.ref 0, .int (Int32.ofNat X)] (I, J, R) = some (some (.int 1), xq_upd (yq_cp I 15 (88 + 3 * X)) 24 2 0, J, R) := by
  rcases (show X = 0 ∨ X = 1 by omega) with rfl | rfl
  · have e : ¬ (I, J, R).1 63 (Int32.ofNat 0).toInt.toNat = 0 := hf
    rw [qX7_again_eq, if_neg (by decide), if_neg (by decide), if_pos (by decide), if_pos e, if_pos (by decide), if_pos (by decide), yq_c15_88, xb_V1, qX2_clear_eq, xb_V1]
  · have e : ¬ (I, J, R).1 63 (Int32.ofNat 1).toInt.toNat = 0 := hf
    rw [qX7_again_eq, if_neg (by decide), if_neg (by decide), if_pos (by decide), if_pos e, if_pos (by decide), if_neg (by decide), if_pos (by decide), yq_c15_91, xb_V1, qX2_clear_eq, xb_V1]
theorem yc_againn (h : ¬ ((0 ≤ x.toInt ∧ x.toInt ≤ 1) ∧ ¬ I 63 x.toInt.toNat = 0)) : xq_D xqP (d + 2) 103 [.ref 0, .int x] (I, J, R) = some (some (.int 0), I, J, R) := by
  have e0 : (0 : Int32).toInt = 0 := by decide
  have e2 : (2 : Int32).toInt = 2 := by decide
  rw [qX7_again_eq]
  simp only [xt_lt, xt_le, e0, e2]
  by_cases g : x.toInt < 0
  · rw [if_pos g]
  · rw [if_neg g]
    by_cases g2 : 2 ≤ x.toInt
    · rw [if_pos g2]
    · have hf : ¬ ¬ (I, J, R).1 63 x.toInt.toNat = 0 := fun z => h ⟨by omega, z⟩
      rw [if_neg g2, if_pos (by omega), if_neg hf]
theorem yr_againv (hX : X < 2) (h1 : ¬ I 123 X = 0) (h2 : I 124 X = I 94 47) : ∃ I', xq_D xqP (d + 2) 187 [.ref 94, .int (Int32.ofNat X)] (I, J, R) = some (some (.int 1), I', J, R) ∧ (∀ j, j < 27 → I' 95 j = I 122 (27 * X + j)) ∧ I' 94 24 = 0 ∧ ∀ k j, ¬ k = 95 → ¬ (k = 94 ∧ (j = 24 ∨ j = 11)) → I' k j = I k j := by
  have e0 : (0 : Int32).toInt = 0 := by decide
  have e1 : (1 : Int32).toInt = 1 := by decide
  have bX := xt_nat (n := X) (by omega)
  have bX2 : (Int32.ofNat X).toInt.toNat = X := by omega
  obtain ⟨I', g0, g1, g2, g3, g4⟩ := yq_agl (d := d + 1) (J := J) (R := R) (o := X) hX 27 0 (xq_upd I 94 11 0) rfl
  refine ⟨I', ?_, fun j hj => ?_, g2, fun k j h3 h4 => ?_⟩
  · rw [qX8_again_eq]
    show xq_bI (xq_D xqP (d + 1) 235 [.int (Int32.ofNat X), .int 0, .int 1] (xq_upd I 94 11 0, J, R)) _ = _
    have hA1 : 0 ≤ (X : Int) ∧ (X : Int) ≤ 1 := by omega
    have hA2 : 0 ≤ (X : Int) ∧ (X : Int) < ((2 : Nat) : Int) := by omega
    rw [xe_in, xb_I1, e0, e1, bX2, bX, if_pos hA1, if_neg (by decide), if_pos hA2]
    have f1 : ¬ (xq_upd I 94 11 0, J, R).1 123 X = 0 := by
      show ¬ xq_upd I 94 11 0 123 X = 0
      rw [xu_k (by decide)]
      exact h1
    have f2 : (xq_upd I 94 11 0, J, R).1 124 X = (xq_upd I 94 11 0, J, R).1 94 47 := by
      show xq_upd I 94 11 0 124 X = xq_upd I 94 11 0 94 47
      rw [xu_k (by decide), xu_j (by decide)]
      exact h2
    rw [if_neg f1, if_pos hA2, if_pos f2]
    exact g0
  · rw [g3 j (Nat.zero_le _) hj, xu_k (by decide)]
  · rw [g1 k j h3 (by omega), xq_upd_n (by omega)]
theorem yr_againn (h : ¬ ((0 ≤ x.toInt ∧ x.toInt ≤ 1) ∧ ¬ I 123 x.toInt.toNat = 0 ∧ I 124 x.toInt.toNat = I 94 47)) : xq_D xqP (d + 2) 187 [.ref 94, .int x] (I, J, R) = some (some (.int 0), xq_upd I 94 11 0, J, R) := by
  have e0 : (0 : Int32).toInt = 0 := by decide
  have e1 : (1 : Int32).toInt = 1 := by decide
  rw [qX8_again_eq]
  show xq_bI (xq_D xqP (d + 1) 235 [.int x, .int 0, .int 1] (xq_upd I 94 11 0, J, R)) _ = _
  rw [xe_in, xb_I1, e0, e1]
  by_cases hA : 0 ≤ x.toInt ∧ x.toInt ≤ 1
  · have hA2 : 0 ≤ x.toInt ∧ x.toInt < ((2 : Nat) : Int) := by omega
    rw [if_pos hA, if_neg (by decide), if_pos hA2]
    by_cases g : I 123 x.toInt.toNat = 0
    · have f1 : (xq_upd I 94 11 0, J, R).1 123 x.toInt.toNat = 0 := by
        show xq_upd I 94 11 0 123 x.toInt.toNat = 0
        rw [xu_k (by decide)]
        exact g
      rw [if_pos f1]
    · have f1 : ¬ (xq_upd I 94 11 0, J, R).1 123 x.toInt.toNat = 0 := by
        show ¬ xq_upd I 94 11 0 123 x.toInt.toNat = 0
        rw [xu_k (by decide)]
        exact g
      have f2 : ¬ (xq_upd I 94 11 0, J, R).1 124 x.toInt.toNat = (xq_upd I 94 11 0, J, R).1 94 47 := by
        show ¬ xq_upd I 94 11 0 124 x.toInt.toNat = xq_upd I 94 11 0 94 47
        rw [xu_k (by decide), xu_j (by decide)]
        exact fun z => h ⟨hA, g, z⟩
      rw [if_neg f1, if_pos hA2, if_neg f2]
  · rw [if_neg hA, if_pos rfl]
theorem yagainF (hF : yF I) (hB : yBF I) : yRm yBF 2 103 k9X7_again 2 187 k9X8_again [x] True yF I := by
  refine yRm_mk fun J R hR => ?_
  obtain ⟨c, n, v1, v2, v3, v4, v5, v6, v7, v8, v9, v10, v11⟩ := yV_of hF hB
  obtain ⟨nx, sz, w1, w2, w3, w4, w5, w6⟩ := yPa_of hF.2.2.2.2.1 v1 v3
  have hfl := hF.1.2.2.2.2.2.2
  by_cases hA : (0 ≤ x.toInt ∧ x.toInt ≤ 1) ∧ ¬ I 63 x.toInt.toNat = 0
  · obtain ⟨X, rfl, hX⟩ := ynat hA.1.1 hA.1.2
    have bX := xt_nat (n := X) (by omega)
    have bX2 : (Int32.ofNat X).toInt.toNat = X := by omega
    have hX2 : X < 2 := by omega
    have h63 : ¬ I 63 X = 0 := by
      have := hA.2
      rwa [bX2] at this
    refine ⟨1, xq_upd (yq_cp I 15 (88 + 3 * X)) 24 2 0, ⟨J, R, yc_againv (d := 0) hX2 h63⟩, fun I1' he hf hB1 J' R' hR' => ?_⟩
    have g : ∀ k j, xv k j = true → ¬ (15 ≤ k ∧ k ≤ 17) → ¬ (k = 24 ∧ j = 2) → I1' k j = I k j := fun k j h1 h2 h3 => by rw [he k j h1, xq_upd_n h3, yq_cpn (by omega)]
    obtain ⟨f1, f2⟩ := (hfl X hX2).2.mp h63
    obtain ⟨Ib, b0, b1, b2, b3⟩ := yr_againv (d := 0) (I := I1') (J := J') (R := R') hX2 (by rw [g 123 X (y123_xv hX2).1 (by first | decide | omega) (by first | decide | omega)]; exact f1) (by rw [g 124 X (y123_xv hX2).2 (by first | decide | omega) (by first | decide | omega), g 94 47 rfl (by first | decide | omega) (by first | decide | omega)]; exact f2)
    refine ⟨1, Ib, ⟨J', R', b0⟩, fun _ => rfl, fun I2' he2 hf2 hB2 => ?_⟩
    have t : ∀ k j, xv k j = true → ¬ k = 95 → ¬ k = 94 → I2' k j = I1' k j := fun k j h1 h2 h3 => by rw [he2 k j h1, b3 k j h2 (by omega)]
    have e36 : I2' 3 6 = I 3 6 := by rw [t 3 6 rfl (by first | decide | omega) (by first | decide | omega), g 3 6 rfl (by first | decide | omega) (by first | decide | omega)]
    obtain ⟨c', m1, m2, m3⟩ := hF.2.2.2.2.2
    have : c' = c := xr_nat_inj (by omega) (by omega) (m1.symm.trans v1)
    subst this
    obtain ⟨m4, m5⟩ := m3 X hX2 h63
    have t95 : ∀ i, i < 27 → I2' 95 i = I 122 (27 * X + i) := fun i hi => by rw [he2 95 i (y95_xv hi), b1 i hi, g 122 _ (y122_xv (by omega)) (by first | decide | omega) (by first | decide | omega)]
    refine yF_NA ym_again hf hf2 hF ⟨c', e36.trans v1, v3, fun i hi => ?_, yq_w_cg t95 m5⟩ ⟨c', nx, 0, e36.trans v1, v3, ?_, w2, ?_, Nat.zero_le _, ?_, fun j hj => absurd hj (Nat.not_lt_zero j)⟩
    · rw [t95 i hi, m4 i hi, ← yq_s_cp (I := I) (t := 15) (f := 88 + 3 * X) hi]
      refine (yq_s_cg (fun j hj => ⟨?_, ?_⟩) (fun j h1 h2 => ?_) hi).symm
      · rw [t 16 j (y16_xv hj) (by first | decide | omega) (by first | decide | omega), he 16 j (y16_xv hj), xq_upd_n (by omega)]
      · rw [t 17 j (y17_xv hj) (by first | decide | omega) (by first | decide | omega), he 17 j (y17_xv hj), xq_upd_n (by omega)]
      · rw [t 15 j (y15_xv h1 h2) (by first | decide | omega) (by first | decide | omega), he 15 j (y15_xv h1 h2), xq_upd_n (by omega)]
    · rw [t 24 1 rfl (by first | decide | omega) (by first | decide | omega), g 24 1 rfl (by first | decide | omega) (by first | decide | omega), w1]
    · rw [t 24 2 rfl (by first | decide | omega) (by first | decide | omega), he 24 2 rfl, xu_t]
      rfl
    · rw [he2 94 24 rfl, b2]
      rfl
  · refine ⟨0, I, ⟨J, R, yc_againn (d := 0) hA⟩, fun I1' he hf hB1 J' R' hR' => ?_⟩
    have hA2 : ¬ ((0 ≤ x.toInt ∧ x.toInt ≤ 1) ∧ ¬ I1' 123 x.toInt.toNat = 0 ∧ I1' 124 x.toInt.toNat = I1' 94 47) := fun z => by
      obtain ⟨z1, z2, z3⟩ := z
      have hX2 : x.toInt.toNat < 2 := by omega
      rw [he 123 _ (y123_xv hX2).1] at z2
      rw [he 124 _ (y123_xv hX2).2, he 94 47 rfl] at z3
      exact hA ⟨z1, (hfl _ hX2).2.mpr ⟨z2, z3⟩⟩
    refine ⟨0, xq_upd I1' 94 11 0, ⟨J', R', yr_againn (d := 0) hA2⟩, fun _ => rfl, fun I2' he2 hf2 hB2 => ?_⟩
    exact yF_xv (fun k j h1 h2 => by rw [he2 k j h1, xq_upd_n h2, he k j h1]) hF
theorem yc_keepv (hX : X < 2) : xq_D xqP (d + 2) 138 [.ref 0, .int (Int32.ofNat X)] (I, J, R) = some (some (.int 1), xq_upd (yq_cp I (88 + 3 * X) 15) 63 X 1, J, R) := by
  have ev : vp_nar .boolean (1 : Int32) = 1 := by decide
  rcases (show X = 0 ∨ X = 1 by omega) with rfl | rfl
  · rw [qX7_keep_eq, if_neg (by first | decide | omega), if_pos (by first | decide | omega), if_pos (by first | decide | omega), if_pos (by first | decide | omega), yq_c88_15, xb_V1, if_pos (by first | decide | omega), ev]
    rfl
  · rw [qX7_keep_eq, if_neg (by first | decide | omega), if_pos (by first | decide | omega), if_pos (by first | decide | omega), if_neg (by first | decide | omega), if_pos (by first | decide | omega), yq_c91_15, xb_V1, if_pos (by first | decide | omega), ev]
    rfl
theorem yr_keepv (hX : X < 2) : ∃ I', xq_D xqP (d + 2) 241 [.ref 94, .int (Int32.ofNat X)] (I, J, R) = some (some (.int 1), I', J, R) ∧ (∀ i, i < 27 → I' 122 (27 * X + i) = I 95 i) ∧ (∀ j, ¬ (27 * X ≤ j ∧ j < 27 * X + 27) → I' 122 j = I 122 j) ∧ ∀ k j, ¬ k = 122 → ¬ k = 123 → ¬ k = 124 → ¬ (k = 94 ∧ j = 11) → I' k j = I k j := by
  have e0 : (0 : Int32).toInt = 0 := by decide
  have e1 : (1 : Int32).toInt = 1 := by decide
  have bX := xt_nat (n := X) (by omega)
  have bX2 : (Int32.ofNat X).toInt.toNat = X := by omega
  obtain ⟨I', g0, g1, g2, g3⟩ := yq_l95_122 (d := d) (J := J) (R := R) (off := 27 * X) (I := xq_upd (xq_upd (xq_upd I 94 11 0) 123 X (vp_nar .boolean (1 : Int32))) 124 X (xq_upd I 94 11 0 94 47)) (by omega)
  refine ⟨I', ?_, fun i hi => ?_, fun j hj => ?_, fun k j h1 h2 h3 h4 => ?_⟩
  · rw [qX8_keep_eq]
    show xq_bI (xq_D xqP (d + 1) 235 [.int (Int32.ofNat X), .int 0, .int 1] (xq_upd I 94 11 0, J, R)) _ = _
    have hA1 : 0 ≤ (X : Int) ∧ (X : Int) ≤ 1 := by omega
    have hA2 : 0 ≤ (X : Int) ∧ (X : Int) < ((2 : Nat) : Int) := by omega
    rw [xe_in, xb_I1, e0, e1, bX2, bX, if_pos hA1, if_pos (by first | decide | omega), if_pos hA2, if_pos hA2, yq_27 X (by omega)]
    show xq_bV (xq_D xqP (d + 1) 246 [.ref 95, .ref 122, .int (Int32.ofNat (27 * X))] (xq_upd (xq_upd (xq_upd I 94 11 0) 123 X (vp_nar .boolean (1 : Int32))) 124 X (xq_upd I 94 11 0 94 47), J, R)) _ = _
    rw [g0, xb_V1]
  · rw [g2 i hi, xu_k (by first | decide | omega), xu_k (by first | decide | omega), xu_k (by first | decide | omega)]
  · rw [g3 j hj, xu_k (by first | decide | omega), xu_k (by first | decide | omega), xu_k (by first | decide | omega)]
  · rw [g1 k j h1, xq_upd_n (by omega), xq_upd_n (by omega), xq_upd_n h4]
theorem ykeepF (hF : yF I) (hB : yBF I) : yRm yBF 2 138 k9X7_keep 2 241 k9X8_keep [x] False yF I := by
  have hm := ym_keep
  unfold ym_HLNA at hm
  simp only [Bool.and_eq_true] at hm
  obtain ⟨⟨a1, a2⟩, ⟨b1, b2⟩, ⟨c1, c2⟩, d1, d2⟩ := hm
  obtain ⟨c, n, v1, v2, v3, v4, v5, v6, v7, v8, v9, v10, v11⟩ := yV_of hF hB
  intro J R hR
  obtain ⟨a, I1, J1, R1, h1, h2⟩ := ykeep (x := x) hF.1 hB.1.1 J R hR
  refine ⟨a, I1, J1, R1, h1, fun I1' he hf hB1 J' R' hR' => ?_⟩
  obtain ⟨b, I2, J2, R2, h3, -, h5⟩ := h2 I1' he hB1.1.1 J' R' hR'
  refine ⟨b, I2, J2, R2, h3, fun z => z.elim, fun I2' he2 hf2 hB2 => ⟨yP_e2 he2 h5, yHb_T (yfr2 xH9 a1 a2 hf hf2) hF.2.1, yL_T (yfr2 xL9 b1 b2 hf hf2) hF.2.2.1, yN_T (yfr2 xN9 c1 c2 hf hf2) hF.2.2.2.1, yA_T (yfr2 xA9 d1 d2 hf hf2) hF.2.2.2.2.1, ?_⟩⟩
  by_cases hA : 0 ≤ x.toInt ∧ x.toInt ≤ 1
  · obtain ⟨X, rfl, hX⟩ := ynat hA.1 hA.2
    have hX2 : X < 2 := by omega
    have e1 := h1.symm.trans (yc_keepv (d := 0) hX2)
    simp only [Option.some.injEq, Prod.mk.injEq] at e1
    obtain ⟨-, rfl, -, -⟩ := e1
    obtain ⟨Ib, r0, r1, r2, r3⟩ := yr_keepv (d := 0) (I := I1') (J := J') (R := R') hX2
    have e2 := h3.symm.trans r0
    simp only [Option.some.injEq, Prod.mk.injEq] at e2
    obtain ⟨-, rfl, -, -⟩ := e2
    have t : ∀ k j, xv k j = true → ¬ 94 ≤ k → I2' k j = I1' k j := fun k j q1 q2 => by rw [he2 k j q1, r3 k j (by omega) (by omega) (by omega) (by omega)]
    have s : ∀ k j, xv k j = true → ¬ (88 + 3 * X ≤ k ∧ k ≤ 90 + 3 * X) → ¬ k = 63 → I1' k j = I k j := fun k j q1 q2 q3 => by rw [he k j q1, xq_upd_n (by omega), yq_cpn (by omega)]
    obtain ⟨c', m1, m2, m3⟩ := hF.2.2.2.2.2
    have : c' = c := xr_nat_inj (by omega) (by omega) (m1.symm.trans v1)
    subst this
    refine ⟨c', ?_, v3, fun k hk hz => ?_⟩
    · rw [t 3 6 rfl (by first | decide | omega), s 3 6 rfl (by omega) (by first | decide | omega), v1]
    · by_cases hkX : k = X
      · subst hkX
        have e122 : ∀ i, i < 27 → I2' 122 (27 * k + i) = I 95 i := fun i hi => by rw [he2 122 _ (y122_xv (by omega)), r1 i hi, s 95 i (y95_xv hi) (by omega) (by first | decide | omega)]
        refine ⟨fun i hi => ?_, yq_w_cg e122 v11⟩
        rw [e122 i hi, v10 i hi, ← yq_s_cp (I := I) (t := 88 + 3 * k) (f := 15) hi]
        exact (yq_sK hk (fun k' j q1 q2 q3 => by rw [t k' j (ySK_xv q3) (by omega), he k' j (ySK_xv q3), xq_upd_n (by omega)]) hi).symm
      · rw [t 63 k (y63_xv hk) (by first | decide | omega), he 63 k (y63_xv hk), xq_upd_n (by omega), yq_cpn (by omega)] at hz
        obtain ⟨m4, m5⟩ := m3 k hk hz
        have e122 : ∀ i, i < 27 → I2' 122 (27 * k + i) = I 122 (27 * k + i) := fun i hi => by rw [he2 122 _ (y122_xv (by omega)), r2 _ (by omega), s 122 _ (y122_xv (by omega)) (by omega) (by first | decide | omega)]
        refine ⟨fun i hi => ?_, yq_w_cg e122 m5⟩
        rw [e122 i hi, m4 i hi]
        exact (yq_sK hk (fun k' j q1 q2 q3 => by rw [t k' j (ySK_xv q3) (by omega), s k' j (ySK_xv q3) (by omega) (by omega)]) hi).symm
  · obtain ⟨a', I9, q1, q2⟩ := yc_keep (d := 0) (I := I) (J := J) (R := R) (x := x)
    rcases q2 with ⟨-, rfl⟩ | ⟨z, -⟩
    · have e1 := h1.symm.trans q1
      simp only [Option.some.injEq, Prod.mk.injEq] at e1
      obtain ⟨-, rfl, -, -⟩ := e1
      obtain ⟨b', I8, q3, q4⟩ := yr_keep (d := 0) (I := I1') (J := J') (R := R') (x := x)
      rcases q4 with ⟨-, rfl⟩ | ⟨z, -⟩
      · have e2 := h3.symm.trans q3
        simp only [Option.some.injEq, Prod.mk.injEq] at e2
        obtain ⟨-, rfl, -, -⟩ := e2
        refine yK_T (fun k j h => ?_) hF.2.2.2.2.2
        rw [he2 k j (xt_xv xK9 h), xq_upd_n (yT_n (by decide +kernel) h), he k j (xt_xv xK9 h)]
      · exact absurd z hA
    · exact absurd z hA
end YU9
