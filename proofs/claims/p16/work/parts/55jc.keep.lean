/-! bytes; sign(), keep(), again() -/
theorem yb255 (y : BitVec 32) : BitVec.signExtend 32 (BitVec.setWidth 8 y) &&& 255#32 = y &&& 255#32 := by
  apply BitVec.eq_of_getLsbD_eq
  intro i hi
  rw [BitVec.getLsbD_and, BitVec.getLsbD_and]
  by_cases h : i < 8
  · rw [BitVec.getLsbD_signExtend, BitVec.getLsbD_setWidth]
    simp [h, hi]
  · have h2 : (255#32).getLsbD i = false := by
      rw [show (255#32) = BitVec.setWidth 32 (BitVec.allOnes 8) by decide, BitVec.getLsbD_setWidth, BitVec.getLsbD_allOnes]
      simp [h]
    rw [h2, Bool.and_false, Bool.and_false]
theorem yb255s (y : BitVec 32) : BitVec.signExtend 32 (BitVec.signExtend 8 y) &&& 255#32 = y &&& 255#32 := by
  apply BitVec.eq_of_getLsbD_eq
  intro i hi
  rw [BitVec.getLsbD_and, BitVec.getLsbD_and]
  by_cases h : i < 8
  · rw [BitVec.getLsbD_signExtend, BitVec.getLsbD_signExtend]
    simp [h, hi]
  · have h2 : (255#32).getLsbD i = false := by
      rw [show (255#32) = BitVec.setWidth 32 (BitVec.allOnes 8) by decide, BitVec.getLsbD_setWidth, BitVec.getLsbD_allOnes]
      simp [h]
    rw [h2, Bool.and_false, Bool.and_false]
def yc4 (v : Int32) (k : Nat) : Int32 := (v.toUInt32 >>> ((Int32.ofInt (8 * (k : Int))).toUInt32 &&& Int32.toUInt32 31)).toInt32 &&& Int32.ofInt 255
def yr4 (v : Int32) (k : Nat) : Int32 := (v >>> ((Int8.ofInt 8).toInt32 * Int32.ofInt (k : Int) &&& 31)).toInt8.toInt32
theorem yr4_b (x : Int32) : x.toInt8.toInt32 &&& Int32.ofInt 255 = x &&& Int32.ofInt 255 := by
  apply Int32.toBitVec_inj.mp
  rw [Int32.toBitVec_and, Int32.toBitVec_and, show (Int32.ofInt 255).toBitVec = 255#32 by decide]
  first
    | exact yb255 x.toBitVec
    | (rw [Int8.toBitVec_toInt32, Int32.toBitVec_toInt8]; exact yb255s x.toBitVec)
theorem ys255 (y : BitVec 32) (s : Nat) (hs : s ≤ 24) : (y >>> s) &&& 255#32 = (y.sshiftRight s) &&& 255#32 := by
  apply BitVec.eq_of_getLsbD_eq
  intro i hi
  rw [BitVec.getLsbD_and, BitVec.getLsbD_and]
  by_cases h : i < 8
  · rw [BitVec.getLsbD_ushiftRight, BitVec.getLsbD_sshiftRight]
    simp [hi, show s + i < 32 by omega, show ¬ 32 ≤ i by omega]
  · have h2 : (255#32).getLsbD i = false := by
      rw [show (255#32) = BitVec.setWidth 32 (BitVec.allOnes 8) by decide, BitVec.getLsbD_setWidth, BitVec.getLsbD_allOnes]
      simp [h]
    rw [h2, Bool.and_false, Bool.and_false]
theorem y44 (v : Int32) : ∀ k : Nat, k < 4 → yc4 v k = vp_nar .byte (yr4 v k) &&& Int32.ofInt 255 := by
  intro k hk
  have h1 : vp_nar .byte (yr4 v k) &&& Int32.ofInt 255 = (v >>> ((Int8.ofInt 8).toInt32 * Int32.ofInt (k : Int) &&& 31)) &&& Int32.ofInt 255 := (yr4_b (yr4 v k)).trans (yr4_b _)
  rw [h1]
  apply Int32.toBitVec_inj.mp
  match k, hk with
  | 0, _ => exact ys255 v.toBitVec 0 (by decide)
  | 1, _ => exact ys255 v.toBitVec 8 (by decide)
  | 2, _ => exact ys255 v.toBitVec 16 (by decide)
  | 3, _ => exact ys255 v.toBitVec 24 (by decide)
section YD
variable {d c : Nat} {I : Nat → Nat → Int32} {J : Nat → Nat → Int64} {R : Nat → Nat → Nat} {x y : Int32} {v w : Int64}
theorem yc_s {m : Nat} {s u : Int32} (h : I 1 1 = Int32.ofNat m) (hm : m < 80) (hs : ¬ s < 0) : qX6_add_h16 d u s (I, J, R) = qX6_add_h16 d u (s + (-8 : Int32)) (xq_upd (xq_upd I 2 m ((u.toUInt32 >>> (s.toUInt32 &&& Int32.toUInt32 31)).toInt32 &&& (255 : Int32))) 1 1 (Int32.ofNat (m + 1)), J, R) := by
  have e : (I, J, R).1 1 1 = Int32.ofNat m := h
  have e1 : Int32.ofNat m + (1 : Int32) = Int32.ofNat (m + 1) := (Int32.ofNat_add m 1).symm
  rw [qX6_add_h16_eq, if_neg hs, e, e1, xt_nat (by omega), if_pos (by omega)]
  rfl
theorem yr_s {m : Nat} {s u : Int32} (h : I 94 8 = Int32.ofNat m) (hm : m < 80) (hs : ¬ s < 0) : qX8_sign_h20 d u s (I, J, R) = qX8_sign_h20 d u (s + (-1 : Int32)) (xq_upd (xq_upd I 94 8 (Int32.ofNat (m + 1))) 99 m (vp_nar .byte ((u >>> (((8 : Int32) * s) &&& 31))).toInt8.toInt32), J, R) := by
  have e : (I, J, R).1 94 8 = Int32.ofNat m := h
  have e1 : Int32.ofNat m + (1 : Int32) = Int32.ofNat (m + 1) := (Int32.ofNat_add m 1).symm
  rw [qX8_sign_h20_eq, if_neg hs, e, e1, xt_nat (by omega), if_pos (by omega)]
  rfl
theorem yc_add4 {n : Nat} {u : Int32} (h : I 1 1 = Int32.ofNat n) (hn : n + 4 ≤ 80) : ∃ I', qX6_add_h16 d u 24 (I, J, R) = some (some (.int (Int32.ofNat (n + 4))), I', J, R) ∧ I' 1 1 = Int32.ofNat (n + 4) ∧ I' 2 n = yc4 u 3 ∧ I' 2 (n + 1) = yc4 u 2 ∧ I' 2 (n + 2) = yc4 u 1 ∧ I' 2 (n + 3) = yc4 u 0 ∧ (∀ i, (i < n ∨ n + 4 ≤ i) → I' 2 i = I 2 i) ∧ ∀ k j, ¬ k = 2 → ¬ (k = 1 ∧ j = 1) → I' k j = I k j := by
  refine ⟨xq_upd (xq_upd (xq_upd (xq_upd (xq_upd (xq_upd (xq_upd (xq_upd I 2 n (yc4 u 3)) 1 1 (Int32.ofNat (n + 1))) 2 (n + 1) (yc4 u 2)) 1 1 (Int32.ofNat (n + 2))) 2 (n + 2) (yc4 u 1)) 1 1 (Int32.ofNat (n + 3))) 2 (n + 3) (yc4 u 0)) 1 1 (Int32.ofNat (n + 4)), ?_, xu_t, ?_, ?_, ?_, ?_, fun i hi => ?_, fun k j h1 h2 => ?_⟩
  · rw [yc_s h (by omega) (by decide), yc_s (m := n + 1) xu_t (by omega) (by decide), yc_s (m := n + 2) xu_t (by omega) (by decide), yc_s (m := n + 3) xu_t (by omega) (by decide), qX6_add_h16_eq, if_pos (by decide)]
    have e9 : ∀ (F : Nat → Nat → Int32) (z : Int32), F 1 1 = z → (some (some (Value.int ((F, J, R).1 1 1)), (F, J, R)) : Option xq_O) = some (some (Value.int z), F, J, R) := by
      intro F z h
      rw [← h]
    exact e9 _ _ xu_t
  · rw [xq_upd_n (by omega), xq_upd_n (by omega), xq_upd_n (by omega), xq_upd_n (by omega), xq_upd_n (by omega), xq_upd_n (by omega), xq_upd_n (by omega), xu_t]
  · rw [xq_upd_n (by omega), xq_upd_n (by omega), xq_upd_n (by omega), xq_upd_n (by omega), xq_upd_n (by omega), xu_t]
  · rw [xq_upd_n (by omega), xq_upd_n (by omega), xq_upd_n (by omega), xu_t]
  · rw [xq_upd_n (by omega), xu_t]
  · rw [xq_upd_n (by omega), xq_upd_n (by omega), xq_upd_n (by omega), xq_upd_n (by omega), xq_upd_n (by omega), xq_upd_n (by omega), xq_upd_n (by omega), xq_upd_n (by omega)]
  · rw [xq_upd_n (by omega), xq_upd_n (by omega), xq_upd_n (by omega), xq_upd_n (by omega), xq_upd_n (by omega), xq_upd_n (by omega), xq_upd_n (by omega), xq_upd_n (by omega)]
theorem yr_add4 {n : Nat} {u : Int32} (h : I 94 8 = Int32.ofNat n) (hn : n + 4 ≤ 80) : ∃ I', qX8_sign_h20 d u 3 (I, J, R) = some (some (.int (Int32.ofNat (n + 4))), I', J, R) ∧ I' 94 8 = Int32.ofNat (n + 4) ∧ I' 99 n = vp_nar .byte (yr4 u 3) ∧ I' 99 (n + 1) = vp_nar .byte (yr4 u 2) ∧ I' 99 (n + 2) = vp_nar .byte (yr4 u 1) ∧ I' 99 (n + 3) = vp_nar .byte (yr4 u 0) ∧ (∀ i, (i < n ∨ n + 4 ≤ i) → I' 99 i = I 99 i) ∧ ∀ k j, ¬ k = 99 → ¬ (k = 94 ∧ j = 8) → I' k j = I k j := by
  refine ⟨xq_upd (xq_upd (xq_upd (xq_upd (xq_upd (xq_upd (xq_upd (xq_upd I 94 8 (Int32.ofNat (n + 1))) 99 n (vp_nar .byte (yr4 u 3))) 94 8 (Int32.ofNat (n + 2))) 99 (n + 1) (vp_nar .byte (yr4 u 2))) 94 8 (Int32.ofNat (n + 3))) 99 (n + 2) (vp_nar .byte (yr4 u 1))) 94 8 (Int32.ofNat (n + 4))) 99 (n + 3) (vp_nar .byte (yr4 u 0)), ?_, ?_, ?_, ?_, ?_, xu_t, fun i hi => ?_, fun k j h1 h2 => ?_⟩
  · have g : ∀ {F : Nat → Nat → Int32} {a b : Int32} {m : Nat}, xq_upd (xq_upd F 94 8 a) 99 m b 94 8 = a := by
      intro F a b m
      rw [xu_k (by decide), xu_t]
    rw [yr_s h (by omega) (by decide), yr_s (m := n + 1) g (by omega) (by decide), yr_s (m := n + 2) g (by omega) (by decide), yr_s (m := n + 3) g (by omega) (by decide), qX8_sign_h20_eq, if_pos (by decide)]
    have e9 : ∀ (F : Nat → Nat → Int32) (z : Int32), F 94 8 = z → (some (some (Value.int ((F, J, R).1 94 8)), (F, J, R)) : Option xq_O) = some (some (Value.int z), F, J, R) := by
      intro F z h
      rw [← h]
    exact e9 _ _ g
  · rw [xq_upd_n (by omega), xu_t]
  · rw [xq_upd_n (by omega), xq_upd_n (by omega), xq_upd_n (by omega), xq_upd_n (by omega), xq_upd_n (by omega), xq_upd_n (by omega), xu_t]
  · rw [xq_upd_n (by omega), xq_upd_n (by omega), xq_upd_n (by omega), xq_upd_n (by omega), xu_t]
  · rw [xq_upd_n (by omega), xq_upd_n (by omega), xu_t]
  · rw [xq_upd_n (by omega), xq_upd_n (by omega), xq_upd_n (by omega), xq_upd_n (by omega), xq_upd_n (by omega), xq_upd_n (by omega), xq_upd_n (by omega), xq_upd_n (by omega)]
  · rw [xq_upd_n (by omega), xq_upd_n (by omega), xq_upd_n (by omega), xq_upd_n (by omega), xq_upd_n (by omega), xq_upd_n (by omega), xq_upd_n (by omega), xq_upd_n (by omega)]
theorem ysign (hP : yP I) (hB : yB I) : yRd yB 2 167 1 280 [x] False yP I := by
  refine yRd_mk fun J R hR => ?_
  obtain ⟨n, hn, hn8⟩ := ynat hB.2.2.2.1.1 hB.2.2.2.1.2
  have hn8 : n ≤ 80 := by omega
  have ht : I 94 8 = Int32.ofNat n := hP.1.trans hn
  have e4 : Int32.ofNat n + (4 : Int32) = Int32.ofNat (n + 4) := (Int32.ofNat_add n 4).symm
  have e80 : Int32.ofNat (n + 4) ≤ (80 : Int32) ↔ n + 4 ≤ 80 := xr_le (b := 80) (by omega) (by omega)
  have e : (I, J, R).1 1 1 = Int32.ofNat n := hn
  by_cases hA : n + 4 ≤ 80
  · obtain ⟨I1, h1, a1, a2, a3, a4, a5, a6, a7⟩ := yc_add4 (d := 0) (I := I) (J := J) (R := R) (u := x) hn hA
    refine ⟨Int32.ofNat (n + 4), I1, ⟨J, R, ?_⟩, fun I1' he hB1 J' R' hR' => ?_⟩
    · show xq_D xqP 2 167 [.ref 0, .int x] (I, J, R) = _
      rw [qX7_sign_eq, qX6_add_eq, e, e4, if_pos (e80.mpr hA), h1, xb_I1]
    · have g0 : ∀ k j, yS k j → I1' k j = I1 k j := fun k j h => he k j (yS_xv h)
      have g1 : ∀ k j, yS k j → ¬ k = 2 → ¬ (k = 1 ∧ j = 1) → I1' k j = I k j := fun k j h h2 h3 => (g0 k j h).trans (a7 k j h2 h3)
      have h8 : xq_upd I1' 94 11 0 94 8 = Int32.ofNat n := by rw [xu_j (by decide), g1 94 8 (by unfold yS; omega) (by omega) (by omega), ht]
      obtain ⟨I2, h2, b1, b2, b3, b4, b5, b6, b7⟩ := yr_add4 (d := 0) (I := xq_upd I1' 94 11 0) (J := J') (R := R') (u := x) h8 hA
      refine ⟨Int32.ofNat (n + 4), I2, ⟨J', R', ?_⟩, fun h => h.elim, ?_⟩
      · show xq_D xqP 1 280 [.ref 94, .int x] (I1', J', R') = _
        have e : (I1', J', R').1 94 8 = Int32.ofNat n := by rw [← h8, xu_j (by decide)]
        rw [qX8_sign_eq, e, e4, if_pos (e80.mpr hA)]
        exact h2
      · obtain ⟨p1, p2, p3, p4, p5, p6, p7⟩ := hP
        have g2 : ∀ k j, yS k j → ¬ k = 99 → ¬ (k = 94 ∧ j = 8) → I2 k j = I1' k j := fun k j h h2 h3 => by rw [b7 k j h2 h3, xq_upd_n (by unfold yS at h; omega)]
        have g3 : ∀ k j, yS k j → ¬ k = 2 → ¬ (k = 1 ∧ j = 1) → ¬ k = 99 → ¬ (k = 94 ∧ j = 8) → I2 k j = I k j := fun k j h h2 h3 h4 h5 => (g2 k j h h4 h5).trans (g1 k j h h2 h3)
        have key : yP2 I2 := by
          intro i hi
          rw [g2 2 i (by unfold yS; omega) (by omega) (by omega), g0 2 i (by unfold yS; omega)]
          by_cases q : i < n ∨ n + 4 ≤ i
          · rw [a6 i q, b6 i q, xq_upd_n (by omega), g1 99 i (by unfold yS; omega) (by omega) (by omega)]
            exact p2 i hi
          · rcases (show i = n ∨ i = n + 1 ∨ i = n + 2 ∨ i = n + 3 by omega) with rfl | rfl | rfl | rfl
            · rw [a2, b2]; exact y44 x 3 (by decide)
            · rw [a3, b3]; exact y44 x 2 (by decide)
            · rw [a4, b4]; exact y44 x 1 (by decide)
            · rw [a5, b5]; exact y44 x 0 (by decide)
        refine ⟨?_, key, ?_, fun r hr hcr => ?_, ?_, ?_, fun i hi => ?_⟩
        · unfold yP1
          rw [b1, g2 1 1 (by unfold yS; omega) (by omega) (by omega), g0 1 1 (by unfold yS; omega), a1]
        · unfold yP3
          rw [g3 94 3 (by unfold yS; omega) (by omega) (by omega) (by omega) (by omega), g3 3 6 (by unfold yS; omega) (by omega) (by omega) (by omega) (by omega)]
          exact p3
        · rw [g3 3 6 (by unfold yS; omega) (by omega) (by omega) (by omega) (by omega)] at hcr
          rw [g3 4 r (by unfold yS; omega) (by omega) (by omega) (by omega) (by omega), g3 5 r (by unfold yS; omega) (by omega) (by omega) (by omega) (by omega), g3 6 r (by unfold yS; omega) (by omega) (by omega) (by omega) (by omega), g3 96 r (by unfold yS; omega) (by omega) (by omega) (by omega) (by omega), g3 97 r (by unfold yS; omega) (by omega) (by omega) (by omega) (by omega), g3 98 r (by unfold yS; omega) (by omega) (by omega) (by omega) (by omega)]
          exact p4 r hr hcr
        · rw [g3 94 47 (by unfold yS; omega) (by omega) (by omega) (by omega) (by omega)]
          exact p5
        · rw [g3 94 47 (by unfold yS; omega) (by omega) (by omega) (by omega) (by omega), g3 94 3 (by unfold yS; omega) (by omega) (by omega) (by omega) (by omega)]
          exact p6
        · rw [g3 94 47 (by unfold yS; omega) (by omega) (by omega) (by omega) (by omega), g3 63 i (by unfold yS; omega) (by omega) (by omega) (by omega) (by omega), g3 123 i (by unfold yS; omega) (by omega) (by omega) (by omega) (by omega), g3 124 i (by unfold yS; omega) (by omega) (by omega) (by omega) (by omega)]
          exact p7 i hi
  · refine ⟨-1, I, ⟨J, R, ?_⟩, fun I1' he hB1 J' R' hR' => ?_⟩
    · show xq_D xqP 2 167 [.ref 0, .int x] (I, J, R) = _
      rw [qX7_sign_eq, qX6_add_eq, e, e4, if_neg (fun q => hA (e80.mp q)), xb_I1]
    · have g0 : ∀ k j, yS k j → I1' k j = I k j := fun k j h => he k j (yS_xv h)
      refine ⟨-1, xq_upd I1' 94 11 0, ⟨J', R', ?_⟩, fun h => h.elim, yP_cg (fun k j h => ?_) hP⟩
      · show xq_D xqP 1 280 [.ref 94, .int x] (I1', J', R') = _
        have e : (I1', J', R').1 94 8 = Int32.ofNat n := (g0 94 8 (by unfold yS; omega)).trans ht
        rw [qX8_sign_eq, e, e4, if_neg (fun q => hA (e80.mp q))]
      · rw [xq_upd_n (by unfold yS at h; omega), g0 k j h]
/-! keep(), again() -/
def yK (k : Nat) : Prop := k = 88 ∨ k = 89 ∨ k = 90 ∨ k = 91 ∨ k = 92 ∨ k = 93
theorem yr_lay122 {b : Nat} (hb : b + 27 ≤ 54) : ∀ (m i : Nat) (I : Nat → Nat → Int32), i + m = 27 → ∃ I', qX8_lay_95_122_h2 d (Int32.ofNat b) (Int32.ofNat i) (I, J, R) = some (none, I', J, R) ∧ (∀ j, i ≤ j → j < 27 → I' 122 (b + j) = I 95 j) ∧ (∀ j, (j < b + i ∨ b + 27 ≤ j) → I' 122 j = I 122 j) ∧ ∀ k j, ¬ k = 122 → I' k j = I k j
  | 0, i, I, hi => by
    refine ⟨I, ?_, fun j h1 h2 => by omega, fun j _ => rfl, fun k j _ => rfl⟩
    rw [qX8_lay_95_122_h2_eq, if_pos (show (27 : Int32) ≤ Int32.ofNat i from (xr_le (a := 27) (by omega) (by omega)).mpr (by omega))]
  | m + 1, i, I, hi => by
    have a1 : Int32.ofNat b + Int32.ofNat i = Int32.ofNat (b + i) := (Int32.ofNat_add b i).symm
    have a2 : Int32.ofNat i + (1 : Int32) = Int32.ofNat (i + 1) := (Int32.ofNat_add i 1).symm
    obtain ⟨I', g0, g1, g2, g3⟩ := yr_lay122 hb m (i + 1) (xq_upd I 122 (b + i) (I 95 i)) (by omega)
    refine ⟨I', ?_, fun j h1 h2 => ?_, fun j h1 => ?_, fun k j h => ?_⟩
    · rw [qX8_lay_95_122_h2_eq, if_neg (show ¬ (27 : Int32) ≤ Int32.ofNat i from fun q => by have := (xr_le (a := 27) (by omega) (by omega)).mp q; omega), a1, a2, xt_nat (by omega), xt_nat (by omega), if_pos (by omega), if_pos (by omega)]
      exact g0
    · by_cases hj : j = i
      · subst hj
        rw [g2 (b + j) (by omega), xu_t]
      · rw [g1 j (by omega) h2, xq_upd_n (by omega)]
    · rw [g2 j (by omega), xq_upd_n (by omega)]
    · rw [g3 k j h, xq_upd_n (by omega)]
theorem yr_ag122 {b : Int32} {b0 : Nat} (hb : (27 : Int32) * b = Int32.ofNat b0) (hb0 : b0 + 27 ≤ 54) : ∀ (m i : Nat) (I : Nat → Nat → Int32), i + m = 27 → ∃ I', qX8_again_h40 d b (Int32.ofNat i) (I, J, R) = some (some (.int 1), I', J, R) ∧ (∀ j, i ≤ j → j < 27 → I' 95 j = I 122 (b0 + j)) ∧ (∀ j, (j < i ∨ 27 ≤ j) → I' 95 j = I 95 j) ∧ I' 94 24 = 0 ∧ ∀ k j, ¬ k = 95 → ¬ (k = 94 ∧ j = 24) → I' k j = I k j
  | 0, i, I, hi => by
    refine ⟨xq_upd I 94 24 0, ?_, fun j h1 h2 => by omega, fun j _ => by rw [xu_k (by decide)], xu_t, fun k j _ h => by rw [xq_upd_n h]⟩
    rw [qX8_again_h40_eq, if_pos (show (27 : Int32) ≤ Int32.ofNat i from (xr_le (a := 27) (by omega) (by omega)).mpr (by omega))]
  | m + 1, i, I, hi => by
    have a1 : Int32.ofNat b0 + Int32.ofNat i = Int32.ofNat (b0 + i) := (Int32.ofNat_add b0 i).symm
    have a2 : Int32.ofNat i + (1 : Int32) = Int32.ofNat (i + 1) := (Int32.ofNat_add i 1).symm
    obtain ⟨I', g0, g1, g2, g4, g3⟩ := yr_ag122 hb hb0 m (i + 1) (xq_upd I 95 i (I 122 (b0 + i))) (by omega)
    refine ⟨I', ?_, fun j h1 h2 => ?_, fun j h1 => ?_, g4, fun k j h h9 => ?_⟩
    · rw [qX8_again_h40_eq, if_neg (show ¬ (27 : Int32) ≤ Int32.ofNat i from fun q => by have := (xr_le (a := 27) (by omega) (by omega)).mp q; omega), hb, a1, a2, xt_nat (by omega), xt_nat (by omega), if_pos (by omega), if_pos (by omega)]
      exact g0
    · by_cases hj : j = i
      · subst hj
        rw [g2 j (by omega), xu_t]
      · rw [g1 j (by omega) h2, xq_upd_n (by omega)]
    · rw [g2 j (by omega), xq_upd_n (by omega)]
    · rw [g3 k j h h9, xq_upd_n (by omega)]
theorem yc_cp88 : ∃ I', xq_D xqP (d + 1) 85 [.ref 88, .ref 15] (I, J, R) = some (none, I', J, R) ∧ ∀ k j, ¬ k = 88 → ¬ k = 89 → ¬ k = 90 → I' k j = I k j := by
  refine ⟨_, qX5_copy_88_15_eq d (I, J, R), fun k j h1 h2 h3 => ?_⟩
  rw [xu_k h1, xu_k h1, xu_k h1, xu_k h1]
  unfold xq_cpy
  rw [if_neg (fun q => h3 q.1), if_neg (fun q => h2 q.1)]
theorem yc_cp91 : ∃ I', xq_D xqP (d + 1) 85 [.ref 91, .ref 15] (I, J, R) = some (none, I', J, R) ∧ ∀ k j, ¬ k = 91 → ¬ k = 92 → ¬ k = 93 → I' k j = I k j := by
  refine ⟨_, qX5_copy_91_15_eq d (I, J, R), fun k j h1 h2 h3 => ?_⟩
  rw [xu_k h1, xu_k h1, xu_k h1, xu_k h1]
  unfold xq_cpy
  rw [if_neg (fun q => h3 q.1), if_neg (fun q => h2 q.1)]
theorem yc_cpn (i : Nat) (hi : i = 88 ∨ i = 91) : ∃ I', xq_D xqP (d + 1) 85 [.ref 15, .ref i] (I, J, R) = some (none, I', J, R) ∧ ∀ k j, ¬ k = 15 → ¬ k = 16 → ¬ k = 17 → I' k j = I k j := by
  rcases hi with rfl | rfl
  · refine ⟨_, qX5_copy_15_88_eq d (I, J, R), fun k j h1 h2 h3 => ?_⟩
    rw [xu_k h1, xu_k h1, xu_k h1, xu_k h1]
    unfold xq_cpy
    rw [if_neg (fun q => h3 q.1), if_neg (fun q => h2 q.1)]
  · refine ⟨_, qX5_copy_15_91_eq d (I, J, R), fun k j h1 h2 h3 => ?_⟩
    rw [xu_k h1, xu_k h1, xu_k h1, xu_k h1]
    unfold xq_cpy
    rw [if_neg (fun q => h3 q.1), if_neg (fun q => h2 q.1)]
theorem y01 {x : Int32} (h1 : 0 ≤ x.toInt) (h2 : x.toInt ≤ 1) : x = 0 ∨ x = 1 := by
  rcases (show x.toInt = 0 ∨ x.toInt = 1 by omega) with h | h
  · left
    rw [xt_eq, h]
    decide
  · right
    rw [xt_eq, h]
    decide
/-- keep() of the class -/
theorem yc_keep : ∃ a I', xq_D xqP (d + 2) 138 [.ref 0, .int x] (I, J, R) = some (some (.int a), I', J, R) ∧ ((¬ (0 ≤ x.toInt ∧ x.toInt ≤ 1) ∧ I' = I) ∨ ((0 ≤ x.toInt ∧ x.toInt ≤ 1) ∧ I' 63 x.toInt.toNat = 1 ∧ ∀ k j, ¬ yK k → ¬ (k = 63 ∧ j = x.toInt.toNat) → I' k j = I k j)) := by
  have e0 : (0 : Int32).toInt = 0 := by decide
  have e2 : (2 : Int32).toInt = 2 := by decide
  have ev : vp_nar .boolean (1 : Int32) = 1 := by decide
  by_cases hA : 0 ≤ x.toInt ∧ x.toInt ≤ 1
  · rcases y01 hA.1 hA.2 with rfl | rfl
    · obtain ⟨I1, h1, h2⟩ := yc_cp88 (d := d) (I := I) (J := J) (R := R)
      refine ⟨1, xq_upd I1 63 0 1, ?_, Or.inr ⟨hA, xu_t, fun k j hk h => ?_⟩⟩
      · rw [qX7_keep_eq, if_neg (by decide), if_pos (by decide), if_pos (by decide), if_pos (by decide), h1, xb_V1, if_pos (by decide), ev]
        rfl
      · unfold yK at hk
        have h : ¬ (k = 63 ∧ j = 0) := h
        rw [xq_upd_n h, h2 k j (by omega) (by omega) (by omega)]
    · obtain ⟨I1, h1, h2⟩ := yc_cp91 (d := d) (I := I) (J := J) (R := R)
      refine ⟨1, xq_upd I1 63 1 1, ?_, Or.inr ⟨hA, xu_t, fun k j hk h => ?_⟩⟩
      · rw [qX7_keep_eq, if_neg (by decide), if_pos (by decide), if_pos (by decide), if_neg (by decide), if_pos (by decide), h1, xb_V1, if_pos (by decide), ev]
        rfl
      · unfold yK at hk
        have h : ¬ (k = 63 ∧ j = 1) := h
        rw [xq_upd_n h, h2 k j (by omega) (by omega) (by omega)]
  · refine ⟨0, I, ?_, Or.inl ⟨hA, rfl⟩⟩
    rw [qX7_keep_eq]
    simp only [xt_lt, e0, e2]
    by_cases g : x.toInt < 0
    · rw [if_pos g]
    · rw [if_neg g, if_neg (by omega)]
theorem yr_keep : ∃ a I', xq_D xqP (d + 2) 241 [.ref 94, .int x] (I, J, R) = some (some (.int a), I', J, R) ∧ ((¬ (0 ≤ x.toInt ∧ x.toInt ≤ 1) ∧ I' = xq_upd I 94 11 0) ∨ ((0 ≤ x.toInt ∧ x.toInt ≤ 1) ∧ I' 123 x.toInt.toNat = 1 ∧ I' 124 x.toInt.toNat = I 94 47 ∧ ∀ k j, ¬ k = 122 → ¬ (k = 94 ∧ j = 11) → ¬ (k = 123 ∧ j = x.toInt.toNat) → ¬ (k = 124 ∧ j = x.toInt.toNat) → I' k j = I k j)) := by
  have e0 : (0 : Int32).toInt = 0 := by decide
  have e1 : (1 : Int32).toInt = 1 := by decide
  have ev : vp_nar .boolean (1 : Int32) = 1 := by decide
  rw [qX8_keep_eq]
  rw [xe_in, xb_I1, e0, e1]
  by_cases hA : 0 ≤ x.toInt ∧ x.toInt ≤ 1
  · obtain ⟨b0, hb0, hb1⟩ : ∃ b0 : Nat, (27 : Int32) * x = Int32.ofNat b0 ∧ b0 + 27 ≤ 54 := by
      rcases y01 hA.1 hA.2 with rfl | rfl
      · exact ⟨0, by decide, by decide⟩
      · exact ⟨27, by decide, by decide⟩
    have hx : 0 ≤ x.toInt ∧ x.toInt < ((2 : Nat) : Int) := by omega
    obtain ⟨I2, g0, -, -, g3⟩ := yr_lay122 (d := d) (J := J) (R := R) hb1 27 0 (xq_upd (xq_upd (xq_upd I 94 11 0) 123 x.toInt.toNat 1) 124 x.toInt.toNat (xq_upd I 94 11 0 94 47)) rfl
    refine ⟨1, I2, ?_, Or.inr ⟨hA, ?_, ?_, fun k j h1 h2 h3 h4 => ?_⟩⟩
    · rw [if_pos hA, if_pos (by decide), if_pos hx, if_pos hx, ev, hb0, qX8_lay_95_122_eq]
      show xq_bV (qX8_lay_95_122_h2 d (Int32.ofNat b0) (Int32.ofNat 0) (xq_upd (xq_upd (xq_upd I 94 11 0) 123 x.toInt.toNat 1) 124 x.toInt.toNat (xq_upd I 94 11 0 94 47), J, R)) _ = _
      rw [g0, xb_V1]
    · rw [g3 _ _ (by decide), xu_k (by decide), xu_t]
    · rw [g3 _ _ (by decide), xu_t, xu_j (by decide)]
    · rw [g3 k j h1, xq_upd_n h4, xq_upd_n h3, xq_upd_n h2]
  · refine ⟨0, xq_upd I 94 11 0, ?_, Or.inl ⟨hA, rfl⟩⟩
    rw [if_neg hA, if_neg (by decide)]
theorem ykeep (hP : yP I) (hB : yB I) : yRd yB 2 138 2 241 [x] False yP I := by
  refine yRd_mk fun J R hR => ?_
  obtain ⟨a, I1, h1, hc⟩ := yc_keep (d := 0) (I := I) (J := J) (R := R) (x := x)
  refine ⟨a, I1, ⟨J, R, h1⟩, fun I1' he hB1 J' R' hR' => ?_⟩
  obtain ⟨b, I2, h2, hr⟩ := yr_keep (d := 0) (I := I1') (J := J') (R := R') (x := x)
  refine ⟨b, I2, ⟨J', R', h2⟩, fun h => h.elim, ?_⟩
  have g0 : ∀ k j, yS k j → I1' k j = I1 k j := fun k j h => he k j (yS_xv h)
  rcases hc with ⟨hA, rfl⟩ | ⟨hA, c1, c2⟩
  · rcases hr with ⟨-, rfl⟩ | ⟨hA2, -⟩
    · refine yP_cg (fun k j h => ?_) hP
      rw [xq_upd_n (by unfold yS at h; omega), g0 k j h]
    · exact absurd hA2 hA
  · rcases hr with ⟨hA2, -⟩ | ⟨-, r1, r2, r3⟩
    · exact absurd hA hA2
    · generalize hi0 : x.toInt.toNat = i0 at *
      have hi2 : i0 < 2 := by omega
      have g1 : ∀ k j, yS k j → ¬ (k = 63 ∧ j = i0) → I1' k j = I k j := fun k j h h3 => by rw [g0 k j h, c2 k j (by unfold yS at h; unfold yK; omega) h3]
      have g2 : ∀ k j, yS k j → ¬ (k = 123 ∧ j = i0) → ¬ (k = 124 ∧ j = i0) → I2 k j = I1' k j := fun k j h h3 h4 => r3 k j (by unfold yS at h; omega) (by unfold yS at h; omega) h3 h4
      have g3 : ∀ k j, yS k j → ¬ (k = 63 ∧ j = i0) → ¬ (k = 123 ∧ j = i0) → ¬ (k = 124 ∧ j = i0) → I2 k j = I k j := fun k j h h2 h3 h4 => (g2 k j h h3 h4).trans (g1 k j h h2)
      have g4 : ∀ k j, yS k j → ¬ k = 63 → ¬ k = 123 → ¬ k = 124 → I2 k j = I k j := fun k j h h2 h3 h4 => g3 k j h (fun q => h2 q.1) (fun q => h3 q.1) (fun q => h4 q.1)
      obtain ⟨p1, p2, p3, p4, p5, p6, p7⟩ := hP
      have e47 : I1' 94 47 = I 94 47 := g1 94 47 (by unfold yS; omega) (by omega)
      have f47 : I2 94 47 = I 94 47 := g4 94 47 (by unfold yS; omega) (by omega) (by omega) (by omega)
      refine ⟨?_, fun i hi => ?_, ?_, fun r hr hcr => ?_, ?_, ?_, fun i hi => ?_⟩
      · unfold yP1
        rw [g4 94 8 (by unfold yS; omega) (by omega) (by omega) (by omega), g4 1 1 (by unfold yS; omega) (by omega) (by omega) (by omega)]
        exact p1
      · rw [g4 2 i (by unfold yS; omega) (by omega) (by omega) (by omega), g4 99 i (by unfold yS; omega) (by omega) (by omega) (by omega)]
        exact p2 i hi
      · unfold yP3
        rw [g4 94 3 (by unfold yS; omega) (by omega) (by omega) (by omega), g4 3 6 (by unfold yS; omega) (by omega) (by omega) (by omega)]
        exact p3
      · rw [g4 3 6 (by unfold yS; omega) (by omega) (by omega) (by omega)] at hcr
        rw [g4 4 r (by unfold yS; omega) (by omega) (by omega) (by omega), g4 5 r (by unfold yS; omega) (by omega) (by omega) (by omega), g4 6 r (by unfold yS; omega) (by omega) (by omega) (by omega), g4 96 r (by unfold yS; omega) (by omega) (by omega) (by omega), g4 97 r (by unfold yS; omega) (by omega) (by omega) (by omega), g4 98 r (by unfold yS; omega) (by omega) (by omega) (by omega)]
        exact p4 r hr hcr
      · rw [f47]
        exact p5
      · rw [f47, g4 94 3 (by unfold yS; omega) (by omega) (by omega) (by omega)]
        exact p6
      · by_cases hq : i = i0
        · subst hq
          have q63 : I2 63 i = 1 := by rw [g2 63 i (by unfold yS; omega) (by omega) (by omega), g0 63 i (by unfold yS; omega), c1]
          rw [r2, e47, q63, r1, f47]
          exact ⟨Int.le_refl _, ⟨fun _ => ⟨by decide, rfl⟩, fun _ => by decide⟩⟩
        · rw [f47, g3 63 i (by unfold yS; omega) (by omega) (by omega) (by omega), g3 123 i (by unfold yS; omega) (by omega) (by omega) (by omega), g3 124 i (by unfold yS; omega) (by omega) (by omega) (by omega)]
          exact p7 i hi
/-- again() -/
theorem yc_again (hx2 : ∀ i, i < 2 → I 63 i = 0 ∨ I 63 i ≠ 0) : ∃ a I', xq_D xqP (d + 2) 103 [.ref 0, .int x] (I, J, R) = some (some (.int a), I', J, R) ∧ a = (if (0 ≤ x.toInt ∧ x.toInt ≤ 1) ∧ ¬ I 63 x.toInt.toNat = 0 then 1 else 0) ∧ ∀ k j, ¬ k = 15 → ¬ k = 16 → ¬ k = 17 → ¬ (k = 24 ∧ j = 2) → I' k j = I k j := by
  have e0 : (0 : Int32).toInt = 0 := by decide
  have e2 : (2 : Int32).toInt = 2 := by decide
  by_cases hA : 0 ≤ x.toInt ∧ x.toInt ≤ 1
  · by_cases hF : I 63 x.toInt.toNat = 0
    · refine ⟨0, I, ?_, ?_, fun k j _ _ _ _ => rfl⟩
      · rw [qX7_again_eq]
        have e : (I, J, R).1 63 x.toInt.toNat = 0 := hF
        simp only [xt_lt, xt_le, e0, e2]
        rw [if_neg (by omega), if_neg (by omega), if_pos (by omega), if_neg (fun q => q hF)]
      · rw [if_neg (fun q => q.2 hF)]
    · rcases y01 hA.1 hA.2 with rfl | rfl
      · obtain ⟨I1, h1, h2⟩ := yc_cpn (d := d) (I := I) (J := J) (R := R) 88 (Or.inl rfl)
        refine ⟨1, xq_upd I1 24 2 0, ?_, ?_, fun k j a1 a2 a3 a4 => ?_⟩
        · have e : ¬ (I, J, R).1 63 (0 : Int32).toInt.toNat = 0 := hF
          rw [qX7_again_eq, if_neg (by decide), if_neg (by decide), if_pos (by decide), if_pos e, if_pos (by decide), if_pos (by decide), h1, xb_V1, qX2_clear_eq, xb_V1]
        · rw [if_pos ⟨by decide, hF⟩]
        · rw [xq_upd_n a4, h2 k j a1 a2 a3]
      · obtain ⟨I1, h1, h2⟩ := yc_cpn (d := d) (I := I) (J := J) (R := R) 91 (Or.inr rfl)
        refine ⟨1, xq_upd I1 24 2 0, ?_, ?_, fun k j a1 a2 a3 a4 => ?_⟩
        · have e : ¬ (I, J, R).1 63 (1 : Int32).toInt.toNat = 0 := hF
          rw [qX7_again_eq, if_neg (by decide), if_neg (by decide), if_pos (by decide), if_pos e, if_pos (by decide), if_neg (by decide), if_pos (by decide), h1, xb_V1, qX2_clear_eq, xb_V1]
        · rw [if_pos ⟨by decide, hF⟩]
        · rw [xq_upd_n a4, h2 k j a1 a2 a3]
  · refine ⟨0, I, ?_, ?_, fun k j _ _ _ _ => rfl⟩
    · rw [qX7_again_eq]
      simp only [xt_lt, xt_le, e0, e2]
      by_cases g : x.toInt < 0
      · rw [if_pos g]
      · rw [if_neg g, if_pos (by omega)]
    · rw [if_neg (fun q => hA q.1)]
theorem yr_again : ∃ a I', xq_D xqP (d + 2) 187 [.ref 94, .int x] (I, J, R) = some (some (.int a), I', J, R) ∧ a = (if (0 ≤ x.toInt ∧ x.toInt ≤ 1) ∧ ¬ I 123 x.toInt.toNat = 0 ∧ I 124 x.toInt.toNat = I 94 47 then 1 else 0) ∧ ∀ k j, ¬ k = 95 → ¬ (k = 94 ∧ (j = 11 ∨ j = 24)) → I' k j = I k j := by
  have e0 : (0 : Int32).toInt = 0 := by decide
  have e1 : (1 : Int32).toInt = 1 := by decide
  have n123 : ∀ j, xq_upd I 94 11 0 123 j = I 123 j := fun j => xu_k (by decide)
  have n124 : ∀ j, xq_upd I 94 11 0 124 j = I 124 j := fun j => xu_k (by decide)
  have n47 : xq_upd I 94 11 0 94 47 = I 94 47 := xu_j (by decide)
  rw [qX8_again_eq]
  rw [xe_in, xb_I1, e0, e1]
  by_cases hA : 0 ≤ x.toInt ∧ x.toInt ≤ 1
  · have hx : 0 ≤ x.toInt ∧ x.toInt < ((2 : Nat) : Int) := by omega
    rw [if_pos hA, if_neg (by decide), if_pos hx, if_pos hx]
    show ∃ a I', (if xq_upd I 94 11 0 123 x.toInt.toNat = 0 then _ else if xq_upd I 94 11 0 124 x.toInt.toNat = xq_upd I 94 11 0 94 47 then _ else _) = _ ∧ _
    rw [n123, n124, n47]
    by_cases hF : I 123 x.toInt.toNat = 0
    · exact ⟨0, xq_upd I 94 11 0, by rw [if_pos hF], by rw [if_neg (fun q => q.2.1 hF)], fun k j _ h => xq_upd_n (by omega)⟩
    · rw [if_neg hF]
      by_cases hG : I 124 x.toInt.toNat = I 94 47
      · obtain ⟨b0, hb0, hb1⟩ : ∃ b0 : Nat, (27 : Int32) * x = Int32.ofNat b0 ∧ b0 + 27 ≤ 54 := by
          rcases y01 hA.1 hA.2 with rfl | rfl
          · exact ⟨0, by decide, by decide⟩
          · exact ⟨27, by decide, by decide⟩
        obtain ⟨I', g0, -, -, -, g4⟩ := yr_ag122 (d := d + 1) (J := J) (R := R) hb0 hb1 27 0 (xq_upd I 94 11 0) rfl
        refine ⟨1, I', ?_, by rw [if_pos ⟨hA, hF, hG⟩], fun k j h1 h2 => ?_⟩
        · rw [if_pos hG]
          exact g0
        · rw [g4 k j h1 (by omega), xq_upd_n (by omega)]
      · exact ⟨0, xq_upd I 94 11 0, by rw [if_neg hG], by rw [if_neg (fun q => hG q.2.2)], fun k j _ h => xq_upd_n (by omega)⟩
  · rw [if_neg hA, if_pos rfl]
    exact ⟨0, xq_upd I 94 11 0, rfl, by rw [if_neg (fun q => hA q.1)], fun k j _ h => xq_upd_n (by omega)⟩
theorem yagain (hP : yP I) (hB : yB I) : yRd yB 2 103 2 187 [x] True yP I := by
  refine yRd_mk fun J R hR => ?_
  obtain ⟨a, I1, h1, ha, hc⟩ := yc_again (d := 0) (I := I) (J := J) (R := R) (x := x) (fun i _ => Classical.em _)
  refine ⟨a, I1, ⟨J, R, h1⟩, fun I1' he hB1 J' R' hR' => ?_⟩
  obtain ⟨b, I2, h2, hb, hr⟩ := yr_again (d := 0) (I := I1') (J := J') (R := R') (x := x)
  have g0 : ∀ k j, yS k j → I1' k j = I k j := fun k j h => by rw [he k j (yS_xv h), hc k j (by unfold yS at h; omega) (by unfold yS at h; omega) (by unfold yS at h; omega) (by unfold yS at h; omega)]
  refine ⟨b, I2, ⟨J', R', h2⟩, fun _ => ?_, yP_cg (fun k j h => ?_) hP⟩
  · rw [ha, hb]
    by_cases hA : 0 ≤ x.toInt ∧ x.toInt ≤ 1
    · rw [g0 123 x.toInt.toNat (by unfold yS; omega), g0 124 x.toInt.toNat (by unfold yS; omega), g0 94 47 (by unfold yS; omega)]
      have := (hP.2.2.2.2.2.2 x.toInt.toNat (by omega)).2
      by_cases hF : I 63 x.toInt.toNat = 0
      · rw [if_neg (fun q => q.2 hF), if_neg (fun q => (this.mpr q.2) hF)]
      · rw [if_pos ⟨hA, hF⟩, if_pos ⟨hA, this.mp hF⟩]
    · rw [if_neg (fun q => hA q.1), if_neg (fun q => hA q.1)]
  · rw [hr k j (by unfold yS at h; omega) (by unfold yS at h; omega), g0 k j h]
end YD
