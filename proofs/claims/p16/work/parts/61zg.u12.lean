/-! sheet() -/
noncomputable def ym_N (k1 k2 : Nat) : Bool := ym_NA k1 k2 && (xt_m k1 oA9 aA9 && xt_m k2 oA9 aA9)
set_option maxRecDepth 100000 in
theorem ym_sheet : ym_N k9X7_sheet k9X8_sheet = true := by decide +kernel
section YU12
variable {d c n nx sz k1 k2 X : Nat} {I I' I1 I2 Ia : Nat → Nat → Int32} {J : Nat → Nat → Int64} {R : Nat → Nat → Nat} {x y z w il : Int32} {S : xq_S} {src : Nat → Int32}
theorem yF_N (hm : ym_N k1 k2 = true) (f1 : xz_fr k1 I I1) (f2 : xz_fr k2 I1 I2) (hF : yF I) (hN : yN I2) : yF I2 := by
  unfold ym_N at hm
  simp only [Bool.and_eq_true] at hm
  obtain ⟨h0, a1, a2⟩ := hm
  exact yF_NA h0 f1 f2 hF hN (yA_T (yfr2 xA9 a1 a2 f1 f2) hF.2.2.2.2.1)
theorem yc_fill17 : ∀ (m i : Nat) (I : Nat → Nat → Int32), i + m = 8 → ∃ I', qJ7_fill_53178_17_h5 d x (Int32.ofNat i) (Int32.ofNat 8) (I, J, R) = some (none, I', J, R) ∧ (∀ j, i ≤ j → j < 8 → I' 17 j = x) ∧ (∀ j, j < i → I' 17 j = I 17 j) ∧ ∀ k j, ¬ k = 17 → I' k j = I k j
  | 0, i, I, h => by
    refine ⟨I, ?_, fun j h1 h2 => by omega, fun _ _ => rfl, fun _ _ _ => rfl⟩
    rw [qJ7_fill_53178_17_h5_eq, if_pos ((xr_le (by omega) (by omega)).mpr (by omega))]
  | m + 1, i, I, h => by
    have a1 : Int32.ofNat i + (1 : Int32) = Int32.ofNat (i + 1) := (Int32.ofNat_add i 1).symm
    have b1 := xt_nat (n := i) (by omega)
    have b2 : (Int32.ofNat i).toInt.toNat = i := by omega
    obtain ⟨I', g0, g1, g2, g3⟩ := yc_fill17 m (i + 1) (xq_upd I 17 i x) (by omega)
    refine ⟨I', ?_, fun j h1 h2 => ?_, fun j h1 => ?_, fun k j h => ?_⟩
    · rw [qJ7_fill_53178_17_h5_eq, if_neg (fun z => by have := (xr_le (by omega) (by omega)).mp z; omega), b2, b1, if_pos (by omega), a1]
      exact g0
    · by_cases hj : j = i
      · subst hj
        rw [g2 j (by omega), xu_t]
      · exact g1 j (by omega) h2
    · rw [g2 j (by omega), xq_upd_n (by omega)]
    · rw [g3 k j h, xq_upd_n (by omega)]
/-- sheet() takes place -/
def ysh (x y : Int32) : Prop := (0 ≤ x.toInt ∧ x.toInt ≤ 3) ∧ y.toInt ≤ 8 ∧ (x = 3 ∨ 0 ≤ y.toInt)
def ysn (x y : Int32) : Int32 := if 0 ≤ x.toInt ∧ x.toInt ≤ 3 then (if y.toInt ≤ 8 then -2 else -1) else -1
theorem yc_sheetv (hc : c ≤ 8) (h3 : I 3 6 = Int32.ofNat c) (h0 : ∀ i, c ≤ i → i < 8 → I 17 i = 0) (hA : ysh x y) : ∃ I', xq_D xqP (d + 2) 166 [.ref 0, .int x, .int y, .int z, .int w] (I, J, R) = some (some (.int (if ¬ x = 3 then ysum (yst3 x y z w) c else -3)), I', J, R) ∧ (∀ i, i < 8 → I' 17 i = if i < c then yst3 x y z w i else 0) ∧ ∀ k j, ¬ k = 17 → I' k j = I k j := by
  have e0 : (0 : Int32).toInt = 0 := by decide
  have e3 : (3 : Int32).toInt = 3 := by decide
  have e8 : (8 : Int32).toInt = 8 := by decide
  obtain ⟨⟨h1, h2⟩, h4, h5⟩ := hA
  have n1 : ¬ x < 0 := fun q => by rw [xt_lt, e0] at q; omega
  have n2 : ¬ (3 : Int32) < x := fun q => by rw [xt_lt, e3] at q; omega
  have n3 : y ≤ (8 : Int32) := by rw [xt_le, e8]; exact h4
  by_cases g : x = 3
  · obtain ⟨I', g0, g1, g2, g3⟩ := yc_fill17 (d := d) (x := 0) (J := J) (R := R) 8 0 I rfl
    have g0' : qJ7_fill_53178_17_h5 d 0 0 (Int32.ofNat 8) (I, J, R) = some (none, I', J, R) := g0
    refine ⟨I', ?_, fun i hi => ?_, g3⟩
    · rw [qX7_sheet_eq, if_neg n1, if_neg n2, if_pos n3, if_neg (fun q => q g), qJ7_fill_53178_17_eq, g0', xb_V1, if_neg (fun q => q g)]
    · rw [g1 i (Nat.zero_le _) hi]
      unfold yst3
      rw [if_pos g]
      split <;> rfl
  · have h5 : 0 ≤ y.toInt := h5.resolve_left g
    obtain ⟨I', g0, g1, g2, g3⟩ := yc_shl (d := d) (x := x) (y := y) (z := z) (w := w) (J := J) (R := R) hc c 0 I (by omega) h3
    have g0' : qX7_sheet_h46 (d + 1) x y z w 0 (I, J, R) = some (some (.int (ysum (I' 17) 8)), I', J, R) := g0
    have hv : ∀ i, i < 8 → I' 17 i = if i < c then yst3 x y z w i else 0 := fun i hi => by
      by_cases e : i < c
      · rw [if_pos e, g1 i (Nat.zero_le _) e]
        exact (if_neg g).symm
      · rw [if_neg e, g2 i (by omega), h0 i (by omega) hi]
    refine ⟨I', ?_, hv, g3⟩
    rw [qX7_sheet_eq, if_neg n1, if_neg n2, if_pos n3, if_pos g, if_pos (by rw [xt_le, e0]; exact h5), g0', if_pos g]
    have s1 : ysum (I' 17) 8 = ysum (yst3 x y z w) c := by
      obtain ⟨m, hm⟩ : ∃ m, c + m = 8 := ⟨8 - c, by omega⟩
      have := ysum_c (f := I' 17) (c := c) (fun r hr hcr => by rw [hv r hr, if_neg (by omega)]) m (by omega)
      rw [hm] at this
      rw [this]
      exact ysum_cg c (fun r hr => by rw [hv r (by omega), if_pos hr])
    rw [s1]
theorem yc_sheetn (hA : ¬ ysh x y) : xq_D xqP (d + 2) 166 [.ref 0, .int x, .int y, .int z, .int w] (I, J, R) = some (some (.int (ysn x y)), I, J, R) := by
  have e0 : (0 : Int32).toInt = 0 := by decide
  have e3 : (3 : Int32).toInt = 3 := by decide
  have e8 : (8 : Int32).toInt = 8 := by decide
  rw [qX7_sheet_eq]
  unfold ysn
  simp only [xt_lt, xt_le, e0, e3, e8]
  by_cases h1 : x.toInt < 0
  · rw [if_pos h1, if_neg (c := 0 ≤ x.toInt ∧ x.toInt ≤ 3) (by omega)]
  rw [if_neg h1]
  by_cases h2 : 3 < x.toInt
  · rw [if_pos h2, if_neg (c := 0 ≤ x.toInt ∧ x.toInt ≤ 3) (by omega)]
  rw [if_neg h2, if_pos (c := 0 ≤ x.toInt ∧ x.toInt ≤ 3) (by omega)]
  by_cases h3 : y.toInt ≤ 8
  · have h4 : ¬ x = 3 := fun q => hA ⟨⟨by omega, by omega⟩, h3, Or.inl q⟩
    have h5 : ¬ 0 ≤ y.toInt := fun q => hA ⟨⟨by omega, by omega⟩, h3, Or.inr q⟩
    rw [if_pos h3, if_pos h3, if_pos h4, if_neg h5]
  · rw [if_neg h3, if_neg h3]
theorem yr_sheetv (hc : c ≤ 8) (h3 : I 94 3 = Int32.ofNat c) (hA : ysh x y) : ∃ I', xq_D xqP (d + 2) 279 [.ref 94, .int x, .int y, .int z, .int w] (I, J, R) = some (some (.int (if ¬ x = 3 then ysum (yst3 x y z w) c else -3)), I', J, R) ∧ (∀ i, i < c → I' 95 (8 + i) = yst3 x y z w i) ∧ (∀ j, ¬ (8 ≤ j ∧ j < 8 + c) → I' 95 j = I 95 j) ∧ ∀ k j, ¬ k = 95 → ¬ (k = 94 ∧ j = 11) → I' k j = I k j := by
  have e0 : (0 : Int32).toInt = 0 := by decide
  have e3 : (3 : Int32).toInt = 3 := by decide
  have e8 : (8 : Int32).toInt = 8 := by decide
  obtain ⟨h1, h4, h5⟩ := hA
  have n3 : y ≤ (8 : Int32) := by rw [xt_le, e8]; exact h4
  obtain ⟨I', g0, g1, g2, g3⟩ := yr_shl (d := d + 1) (x := x) (y := y) (z := z) (w := w) (J := J) (R := R) hc c 0 (xq_upd I 94 11 0) (by omega) (by rw [xu_j (by decide)]; exact h3)
  have ez : z + Int32.ofNat 0 * w = z := by
    rw [show Int32.ofNat 0 = 0 from rfl, Int32.zero_mul, Int32.add_zero]
  rw [ez] at g0
  have g0' : qX8_sheet_h34 (d + 1) x y z w (xq_upd I 94 11 0, J, R) = some (some (.int (if ¬ x = 3 then ysum (yst3 x y z w) c else -3)), I', J, R) := by
    rw [qX8_sheet_h34_eq]
    exact g0
  refine ⟨I', ?_, fun i hi => g1 i (Nat.zero_le _) hi, fun j hj => ?_, fun k j h1 h2 => ?_⟩
  · rw [qX8_sheet_eq]
    show xq_bI (xq_D xqP (d + 1) 235 [.int x, .int 0, .int 3] (xq_upd I 94 11 0, J, R)) _ = _
    rw [xe_in, xb_I1, e0, e3, if_pos h1, if_neg (by decide), if_pos n3]
    by_cases g : (3 : Int32) ≤ x
    · rw [if_pos g]
      exact g0'
    · have h6 : 0 ≤ y.toInt := h5.resolve_left (fun q => g (by rw [q]; exact Int32.le_refl _))
      rw [if_neg g, if_pos (by rw [xt_le, e0]; exact h6)]
      exact g0'
  · rw [g2 j (by omega), xu_k (by decide)]
  · rw [g3 k j h1, xq_upd_n h2]
theorem yr_sheetn (hA : ¬ ysh x y) : xq_D xqP (d + 2) 279 [.ref 94, .int x, .int y, .int z, .int w] (I, J, R) = some (some (.int (ysn x y)), xq_upd I 94 11 0, J, R) := by
  have e0 : (0 : Int32).toInt = 0 := by decide
  have e3 : (3 : Int32).toInt = 3 := by decide
  have e8 : (8 : Int32).toInt = 8 := by decide
  rw [qX8_sheet_eq]
  show xq_bI (xq_D xqP (d + 1) 235 [.int x, .int 0, .int 3] (xq_upd I 94 11 0, J, R)) _ = _
  rw [xe_in, xb_I1, e0, e3]
  unfold ysn
  simp only [xt_le, e0, e3, e8]
  by_cases h1 : 0 ≤ x.toInt ∧ x.toInt ≤ 3
  · rw [if_pos h1, if_pos h1, if_neg (by decide)]
    by_cases h3 : y.toInt ≤ 8
    · have h4 : ¬ 3 ≤ x.toInt := fun q => hA ⟨h1, h3, Or.inl (by rw [xt_eq, e3]; omega)⟩
      have h5 : ¬ 0 ≤ y.toInt := fun q => hA ⟨h1, h3, Or.inr q⟩
      rw [if_pos h3, if_pos h3, if_neg h4, if_neg h5]
    · rw [if_neg h3, if_neg h3]
  · rw [if_neg h1, if_neg h1, if_pos rfl]
theorem ysheetF (hF : yF I) (hB : yBF I) : yRm yBF 2 166 k9X7_sheet 2 279 k9X8_sheet [x, y, z, w] True yF I := by
  refine yRm_mk fun J R hR => ?_
  obtain ⟨c, n, v1, v2, v3, v4, v5, v6, v7, v8, v9, v10, v11⟩ := yV_of hF hB
  by_cases hA : ysh x y
  · obtain ⟨Ic, c0, c1, c2⟩ := yc_sheetv (d := 0) (z := z) (w := w) (J := J) (R := R) v3 v1 (fun i hi h8 => by
      have := ((v11.2 i h8).2.2 hi).1
      rwa [v10 _ (by omega), yq_s_2 h8] at this) hA
    refine ⟨_, Ic, ⟨J, R, c0⟩, fun I1' he hf hB1 J' R' hR' => ?_⟩
    have g : ∀ k j, xv k j = true → ¬ k = 17 → I1' k j = I k j := fun k j h1 h2 => by rw [he k j h1, c2 k j h2]
    obtain ⟨Ir, r0, r1, r2, r3⟩ := yr_sheetv (d := 0) (z := z) (w := w) (I := I1') (J := J') (R := R') v3 ((g 94 3 rfl (by decide)).trans v2) hA
    refine ⟨_, Ir, ⟨J', R', r0⟩, fun _ => rfl, fun I2' he2 hf2 hB2 => ?_⟩
    have t : ∀ k j, xv k j = true → ¬ k = 95 → ¬ k = 94 → I2' k j = I1' k j := fun k j h1 h2 h3 => by rw [he2 k j h1, r3 k j h2 (by omega)]
    have t95 : ∀ i, i < 27 → ¬ (8 ≤ i ∧ i < 8 + c) → I2' 95 i = I 95 i := fun i hi h => by rw [he2 95 i (y95_xv hi), r2 i h, g 95 i (y95_xv hi) (by decide)]
    have t95t : ∀ r, r < 8 → I2' 95 (8 + r) = if r < c then yst3 x y z w r else 0 := fun r hr => by
      by_cases e : r < c
      · rw [if_pos e, he2 95 _ (y95_xv (by omega)), r1 r e]
      · rw [if_neg e, t95 (8 + r) (by omega) (by omega)]
        exact ((v11.2 r hr).2.2 (by omega)).1
    refine yF_N ym_sheet hf hf2 hF ⟨c, ?_, v3, y27 (fun i hi => ?_) (fun r hr => ?_) (fun r hr => ?_) ?_ ?_ ?_, fun i hi => ?_, fun r hr => ?_⟩
    · rw [t 3 6 rfl (by decide) (by decide), g 3 6 rfl (by decide), v1]
    · rw [t95 i (by omega) (by omega), v10 i (by omega), yq_s_1 hi, yq_s_1 hi, t 16 i (y16_xv hi) (by decide) (by decide), g 16 i (y16_xv hi) (by decide)]
    · rw [t95t r hr, yq_s_2 hr, t 17 r (y17_xv hr) (by decide) (by decide), he 17 r (y17_xv hr), c1 r hr]
    · rw [t95 _ (by omega) (by omega), v10 _ (by omega), yq_s_3 hr, yq_s_3 hr, t 15 2 rfl (by decide) (by decide), g 15 2 rfl (by decide)]
    · rw [t95 24 (by decide) (by omega), v10 24 (by decide), yq_s_24, yq_s_24, t 15 3 rfl (by decide) (by decide), g 15 3 rfl (by decide)]
    · rw [t95 25 (by decide) (by omega), v10 25 (by decide), yq_s_25, yq_s_25, t 15 4 rfl (by decide) (by decide), g 15 4 rfl (by decide)]
    · rw [t95 26 (by decide) (by omega), v10 26 (by decide), yq_s_26, yq_s_26, t 15 5 rfl (by decide) (by decide), g 15 5 rfl (by decide)]
    · rw [t95 i (by omega) (by omega)]
      exact v11.1 i hi
    · rw [t95t r hr, t95 (16 + r) (by omega) (by omega)]
      by_cases e : r < c
      · rw [if_pos e]
        have : 0 ≤ (yst3 x y z w r).toInt ∧ (yst3 x y z w r).toInt ≤ 99 := by
          unfold yst3
          split
          · decide
          · exact yst_r
        exact ⟨this.1, this.2, fun q => by omega⟩
      · rw [if_neg e]
        exact ⟨by decide, by decide, fun q => ⟨rfl, ((v11.2 r hr).2.2 q).2⟩⟩
  · refine ⟨_, I, ⟨J, R, yc_sheetn (d := 0) hA⟩, fun I1' he hf hB1 J' R' hR' => ?_⟩
    refine ⟨_, xq_upd I1' 94 11 0, ⟨J', R', yr_sheetn (d := 0) hA⟩, fun _ => rfl, fun I2' he2 hf2 hB2 => ?_⟩
    exact yF_xv (fun k j h1 h2 => by rw [he2 k j h1, xq_upd_n h2, he k j h1]) hF
end YU12
