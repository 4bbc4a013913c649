/-! ROUNDS that keep all: helps; set(), give() -/
def yV (I : Nat → Nat → Int32) (c n : Nat) : Prop := I 3 6 = Int32.ofNat c ∧ I 94 3 = Int32.ofNat c ∧ c ≤ 8 ∧ I 3 7 = Int32.ofNat n ∧ I 94 1 = Int32.ofNat n ∧ 1 ≤ n ∧ n ≤ 8 ∧ I 94 2 = I 3 8 ∧ (∀ r, r < c → I 4 r = I 98 r ∧ I 5 r = I 96 r ∧ I 6 r = I 97 r) ∧ (∀ i, i < 27 → I 95 i = yq_s I 15 i) ∧ yq_w c (I 95)
section YU5
variable {d c n nx sz k1 k2 : Nat} {I I' I1 I2 : Nat → Nat → Int32} {J : Nat → Nat → Int64} {R : Nat → Nat → Nat} {x y : Int32} {S : xq_S}
theorem yV_of (hF : yF I) (hB : yBF I) : ∃ c n, yV I c n := by
  obtain ⟨hP, hH, hL, ⟨c, g1, g2, g3, g4⟩, hA, hK⟩ := hF
  have hb := hB.1.2.1
  obtain ⟨n, hn, hn8⟩ := ynat (h := 8) (by have := hb.1; omega) hb.2
  have h1 : 1 ≤ n := by
    have := hb.1
    rw [hn, xt_nat (by omega)] at this
    omega
  refine ⟨c, n, g1, hP.2.2.1.trans g1, g2, hn, hH.1.trans hn, h1, by omega, hH.2, fun r hr => hP.2.2.2.1 r (by omega) (by rw [g1, xt_nat (by omega)]; omega), g3, g4⟩
def yW (I : Nat → Nat → Int32) (c nx sz : Nat) : Prop := I 24 1 = Int32.ofNat nx ∧ nx < 12 ∧ I 24 2 = Int32.ofNat sz ∧ sz ≤ 12 ∧ I 94 24 = Int32.ofNat sz ∧ ∀ j, j < sz → (∀ i, i < 27 → I 105 (27 * j + i) = yq_s I (26 + 3 * ((nx + 12 - sz + j) % 12)) i) ∧ yq_w c (fun i => I 105 (27 * j + i))
theorem yPa_of (hA : yPa I) (h : I 3 6 = Int32.ofNat c) (hc : c ≤ 8) : ∃ nx sz, yW I c nx sz := by
  obtain ⟨c', nx, sz, g1, g2, g3, g4, g5, g6, g7, g8⟩ := hA
  have : c' = c := xr_nat_inj (by omega) (by omega) (g1.symm.trans h)
  subst this
  exact ⟨nx, sz, g3, g4, g5, g6, g7, g8⟩
theorem yfr2 {o a : List (Nat × Nat)} (hx : xt_x o a = true) (h1 : xt_m k1 o a = true) (h2 : xt_m k2 o a = true) (f1 : xz_fr k1 I I1) (f2 : xz_fr k2 I1 I2) : ∀ k j, yT o a k j → I2 k j = I k j := fun k j hk => (xt_fr hx h2 f2 hk).trans (xt_fr hx h1 f1 hk)
noncomputable def ym_NA (k1 k2 : Nat) : Bool := (xt_m k1 oP9 aP9 && xt_m k2 oP9 aP9) && ((xt_m k1 oH9 aH9 && xt_m k2 oH9 aH9) && ((xt_m k1 oL9 aL9 && xt_m k2 oL9 aL9) && (xt_m k1 oK9 aK9 && xt_m k2 oK9 aK9)))
/-- a round that changes what is now and the past alone -/
theorem yF_NA (hm : ym_NA k1 k2 = true) (f1 : xz_fr k1 I I1) (f2 : xz_fr k2 I1 I2) (hF : yF I) (hN : yN I2) (hA : yPa I2) : yF I2 := by
  unfold ym_NA at hm
  simp only [Bool.and_eq_true] at hm
  obtain ⟨⟨a1, a2⟩, ⟨b1, b2⟩, ⟨c1, c2⟩, d1, d2⟩ := hm
  exact ⟨yP_T (yfr2 xP9 a1 a2 f1 f2) hF.1, yHb_T (yfr2 xH9 b1 b2 f1 f2) hF.2.1, yL_T (yfr2 xL9 c1 c2 f1 f2) hF.2.2.1, hN, hA, yK_T (yfr2 xK9 d1 d2 f1 f2) hF.2.2.2.2.2⟩
noncomputable def ym_0 (k1 k2 : Nat) : Bool := ym_NA k1 k2 && ((xt_m k1 oN9 aN9 && xt_m k2 oN9 aN9) && (xt_m k1 oA9 aA9 && xt_m k2 oA9 aA9))
theorem yF_0 (hm : ym_0 k1 k2 = true) (f1 : xz_fr k1 I I1) (f2 : xz_fr k2 I1 I2) (hF : yF I) : yF I2 := by
  unfold ym_0 at hm
  simp only [Bool.and_eq_true] at hm
  obtain ⟨h0, ⟨a1, a2⟩, b1, b2⟩ := hm
  exact yF_NA h0 f1 f2 hF (yN_T (yfr2 xN9 a1 a2 f1 f2) hF.2.2.2.1) (yA_T (yfr2 xA9 b1 b2 f1 f2) hF.2.2.2.2.1)
theorem yc_isHour : xq_D xqP (d + 1) 137 [.int x] S = some (some (.int (if 0 ≤ x.toInt ∧ x.toInt < 8 then 1 else 0)), S) := by
  have e0 : (0 : Int32).toInt = 0 := by decide
  have e8 : (8 : Int32).toInt = 8 := by decide
  rw [qX7_isHour_eq]
  simp only [xt_lt, xt_le, e0, e8]
  by_cases h1 : x.toInt < 0
  · rw [if_pos h1, if_neg (by omega)]
  · rw [if_neg h1]
    by_cases h2 : 8 ≤ x.toInt
    · rw [if_pos h2, if_neg (by omega)]
    · rw [if_neg h2, if_pos (by omega)]
theorem yr_isHour : xq_D xqP (d + 2) 238 [.int x] S = some (some (.int (if 0 ≤ x.toInt ∧ x.toInt < 8 then 1 else 0)), S) := by
  have e0 : (0 : Int32).toInt = 0 := by decide
  have e7 : (7 : Int32).toInt = 7 := by decide
  rw [qX8_isHour_eq, xe_in, xb_I1, e0, e7]
  by_cases h1 : 0 ≤ x.toInt ∧ x.toInt < 8
  · rw [if_pos h1, if_pos (show 0 ≤ x.toInt ∧ x.toInt ≤ 7 by omega)]
    exact if_pos (Or.inr rfl)
  · rw [if_neg h1, if_neg (show ¬ (0 ≤ x.toInt ∧ x.toInt ≤ 7) by omega)]
    exact if_pos (Or.inl rfl)
theorem yc_isSom (h : I 3 6 = Int32.ofNat c) (hc : c ≤ 8) : xq_D xqP (d + 2) 24 [.ref 3, .int y] (I, J, R) = some (some (.int (if y = -1 ∨ (0 ≤ y.toInt ∧ y.toInt < (c : Int)) then 1 else 0)), I, J, R) := by
  rw [qX0_isSomebodyOrNobody_eq]
  by_cases h1 : y = -1
  · rw [if_pos h1, if_pos (Or.inl h1)]
  · rw [if_neg h1, yc_has h hc, xb_I1]
    by_cases h2 : 0 ≤ y.toInt ∧ y.toInt < (c : Int)
    · rw [if_pos h2, if_neg (by decide), if_pos (Or.inr h2)]
    · rw [if_neg h2, if_pos rfl, if_neg (fun z => z.elim h1 h2)]
theorem yr_gift (h : I 94 3 = Int32.ofNat c) (hc : c ≤ 8) : xq_D xqP (d + 3) 237 [.ref 94, .int x, .int y] (I, J, R) = some (some (.int (if (0 ≤ x.toInt ∧ x.toInt < 8) ∧ (y = -1 ∨ (0 ≤ y.toInt ∧ y.toInt < (c : Int))) then 1 else 0)), I, J, R) := by
  rw [qX8_isGift_eq, yr_isHour, xb_I1]
  by_cases h0 : 0 ≤ x.toInt ∧ x.toInt < 8
  · rw [if_pos h0, if_neg (by decide)]
    by_cases h1 : y = -1
    · rw [if_pos h1, if_pos ⟨h0, Or.inl h1⟩]
    · rw [if_neg h1, yr_man h hc, xb_I1]
      by_cases h2 : 0 ≤ y.toInt ∧ y.toInt < (c : Int)
      · rw [if_pos h2, if_neg (by decide), if_pos ⟨h0, Or.inr h2⟩]
      · rw [if_neg h2, if_pos rfl, if_neg (fun z => z.2.elim h1 h2)]
  · rw [if_neg h0, if_pos rfl, if_neg (fun z => h0 z.1)]
theorem yq_s_hi {k : Nat} (h2 : ∀ j, j < 8 → I' (k + 2) j = I (k + 2) j) (h3 : ∀ j, 2 ≤ j → j ≤ 5 → I' k j = I k j) {i : Nat} (h8 : 8 ≤ i) (hi : i < 27) : yq_s I' k i = yq_s I k i := by
  have h8' : ¬ i < 8 := by omega
  unfold yq_s
  rw [if_neg h8', if_neg h8', h3 2 (by decide) (by decide)]
  by_cases a : i < 16
  · rw [if_pos a, if_pos a, h2 (i - 8) (by omega)]
  · rw [if_neg a, if_neg a]
    by_cases b : i < 24
    · rw [if_pos b, if_pos b]
    · rw [if_neg b, if_neg b, h3 (i - 21) (by omega) (by omega)]
/-- slots of the past in the class -/
def ySA (k j : Nat) : Prop := 26 ≤ k ∧ k ≤ 61 ∧ (if (k - 26) % 3 = 0 then 2 ≤ j ∧ j ≤ 5 else j < 8)
theorem ySA_T {k j : Nat} (h : ySA k j) : yT oA9 aA9 k j := by
  obtain ⟨h1, h2, h3⟩ := h
  by_cases g : (k - 26) % 3 = 0
  · have hm := (yA_mem k (by omega) h1).1 g
    rw [if_pos g] at h3
    obtain ⟨m1, m2, m3, m4⟩ := hm
    have : j = 2 ∨ j = 3 ∨ j = 4 ∨ j = 5 := by omega
    rcases this with rfl | rfl | rfl | rfl
    · exact Or.inl m1
    · exact Or.inl m2
    · exact Or.inl m3
    · exact Or.inl m4
  · have hm := (yA_mem k (by omega) h1).2 g
    rw [if_neg g] at h3
    exact Or.inr ⟨8, hm, h3⟩
theorem ySA_xv {k j : Nat} (h : ySA k j) : xv k j = true := xt_xv xA9 (ySA_T h)
theorem y105_xv {j : Nat} (h : j < 324) : xv 105 j = true := xt_xv xA9 (Or.inr ⟨324, by decide, h⟩)
theorem y95_xv {j : Nat} (h : j < 27) : xv 95 j = true := xt_xv xN9 (Or.inr ⟨27, by decide, h⟩)
theorem y16_xv {j : Nat} (h : j < 8) : xv 16 j = true := xt_xv xN9 (Or.inr ⟨8, by decide, h⟩)
theorem y17_xv {j : Nat} (h : j < 8) : xv 17 j = true := xt_xv xN9 (Or.inr ⟨8, by decide, h⟩)
theorem y15_xv {j : Nat} (h1 : 2 ≤ j) (h2 : j ≤ 5) : xv 15 j = true := by
  have : j = 2 ∨ j = 3 ∨ j = 4 ∨ j = 5 := by omega
  rcases this with rfl | rfl | rfl | rfl <;> exact xt_xv xN9 (Or.inl (by decide))
/-- nothing changed but (94, 11) and what there is not -/
theorem yF_T (h : ∀ k j, yT oP9 aP9 k j ∨ yT oH9 aH9 k j ∨ yT oL9 aL9 k j ∨ yT oN9 aN9 k j ∨ yT oA9 aA9 k j ∨ yT oK9 aK9 k j → I' k j = I k j) (hF : yF I) : yF I' := ⟨yP_T (fun k j g => h k j (Or.inl g)) hF.1, yHb_T (fun k j g => h k j (Or.inr (Or.inl g))) hF.2.1, yL_T (fun k j g => h k j (Or.inr (Or.inr (Or.inl g)))) hF.2.2.1, yN_T (fun k j g => h k j (Or.inr (Or.inr (Or.inr (Or.inl g))))) hF.2.2.2.1, yA_T (fun k j g => h k j (Or.inr (Or.inr (Or.inr (Or.inr (Or.inl g)))))) hF.2.2.2.2.1, yK_T (fun k j g => h k j (Or.inr (Or.inr (Or.inr (Or.inr (Or.inr g)))))) hF.2.2.2.2.2⟩
theorem yT_n {o a : List (Nat × Nat)} (h : (o.all (fun q => Bool.not (Nat.beq q.1 94 && Nat.beq q.2 11)) && a.all (fun q => Bool.not (Nat.beq q.1 94))) = true) {k j : Nat} (hk : yT o a k j) : ¬ (k = 94 ∧ j = 11) := by
  rw [Bool.and_eq_true, List.all_eq_true, List.all_eq_true] at h
  rintro ⟨rfl, rfl⟩
  rcases hk with hk | ⟨n, hk, _⟩
  · exact absurd (h.1 _ hk) (by decide)
  · have := h.2 _ hk
    have : Bool.not (Nat.beq 94 94) = true := this
    exact absurd this (by decide)
theorem yF_xv (t : ∀ k j, xv k j = true → ¬ (k = 94 ∧ j = 11) → I' k j = I k j) (hF : yF I) : yF I' := by
  refine yF_T (fun k j h => ?_) hF
  rcases h with h | h | h | h | h | h
  · exact t k j (xt_xv xP9 h) (yT_n (by decide +kernel) h)
  · exact t k j (xt_xv xH9 h) (yT_n (by decide +kernel) h)
  · exact t k j (xt_xv xL9 h) (yT_n (by decide +kernel) h)
  · exact t k j (xt_xv xN9 h) (yT_n (by decide +kernel) h)
  · exact t k j (xt_xv xA9 h) (yT_n (by decide +kernel) h)
  · exact t k j (xt_xv xK9 h) (yT_n (by decide +kernel) h)
end YU5
