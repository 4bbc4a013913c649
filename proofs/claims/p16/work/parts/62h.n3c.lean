/-! HARD by the other rule of the reference -/
section YNE103
variable {d n n0 : Nat} {I : Nat → Nat → Int32} {J : Nat → Nat → Int64} {R : Nat → Nat → Nat}
theorem yr_hard103 {r h : Nat} {I : Nat → Nat → Int32} (hr : r < 8) (hh : h < 8) (hn0 : n0 ≤ 40) (hs : I 94 20 = Int32.ofNat n0) (hR : R 94 18 = 103) (hb : ∀ i, i < 40 → -128 ≤ (I 103 i).toInt ∧ (I 103 i).toInt ≤ 127) (h21 : I 94 21 = 0) : ∃ v I' R', xq_D xqP (d + 172) 225 [.ref 94, .ref 95, .int (Int32.ofNat r), .int (Int32.ofNat h)] (I, J, R) = some (some (.int v), I', J, R') ∧ (∀ k j, ¬ k = 104 → ¬ (k = 94 ∧ (j = 13 ∨ j = 14 ∨ j = 15 ∨ j = 16)) → I' k j = I k j) ∧ (∀ k j, ¬ (k = 94 ∧ j = 12) → R' k j = R k j) ∧ 0 ≤ v.toInt ∧ v.toInt ≤ 999 ∧ (n0 = 0 → v = ycl (I 95 (8 + r) + I 97 r + (if 5 < h then 9 else 0)) 0 999) ∧ (0 < n0 → ∀ x, yok (yth (Int32.ofNat h) (I 95 (8 + r)) (I 97 r) (I 96 r) (Int32.ofNat r) (ym7 (I 95 24)) (ybc (I 98 r))) (yk_t I 103 n0 40) n0 n0 x → v = ycl x 0 999) := by
  have b1 := xt_nat (n := r) (by omega)
  have b2 : (Int32.ofNat r).toInt.toNat = r := by omega
  have a8 : (8 : Int32) + Int32.ofNat r = Int32.ofNat (8 + r) := (Int32.ofNat_add 8 r).symm
  have b3 := xt_nat (n := 8 + r) (by omega)
  have b4 : (Int32.ofNat (8 + r)).toInt.toNat = 8 + r := by omega
  have fin : ∀ (v : Int32) (S : xq_S), qX8_hardOf_95_h144 (d + 171) (Int32.ofNat r) (Int32.ofNat h) v S = some (some (.int (ycl v 0 999)), S) := by
    intro v S
    rw [qX8_hardOf_95_h144_eq]
    rfl
  have key : ∀ w0 : Int32, w0 = (if 5 < h then 9 else 0) → ∃ v I' R', qX8_hardOf_95_h24 (d + 171) (Int32.ofNat r) (Int32.ofNat h) w0 (I 95 (8 + r) + I 97 r) (I, J, R) = some (some (.int v), I', J, R') ∧ (∀ k j, ¬ k = 104 → ¬ (k = 94 ∧ (j = 13 ∨ j = 14 ∨ j = 15 ∨ j = 16)) → I' k j = I k j) ∧ (∀ k j, ¬ (k = 94 ∧ j = 12) → R' k j = R k j) ∧ 0 ≤ v.toInt ∧ v.toInt ≤ 999 ∧ (n0 = 0 → v = ycl (I 95 (8 + r) + I 97 r + (if 5 < h then 9 else 0)) 0 999) ∧ (0 < n0 → ∀ x, yok (yth (Int32.ofNat h) (I 95 (8 + r)) (I 97 r) (I 96 r) (Int32.ofNat r) (ym7 (I 95 24)) (ybc (I 98 r))) (yk_t I 103 n0 40) n0 n0 x → v = ycl x 0 999) := by
    intro w0 hw0
    have hs' : (I, J, R).1 94 20 = Int32.ofNat n0 := hs
    rw [qX8_hardOf_95_h24_eq, hs']
    by_cases hz : n0 = 0
    · subst hz
      rw [if_pos (by decide), fin]
      have hb9 := ycl_r (v := I 95 (8 + r) + I 97 r + w0) (lo := 0) (hi := 999) (by decide)
      exact ⟨_, I, R, rfl, fun _ _ _ _ => rfl, fun _ _ _ => rfl, hb9.1, hb9.2, fun _ => by rw [hw0], fun z => by omega⟩
    · have hle : ¬ Int32.ofNat n0 ≤ (0 : Int32) := fun z => by
        have := (xr_le (b := 0) (by omega) (by decide)).mp z
        omega
      rw [if_neg hle, a8, b4, b3, b2, b1, if_pos (by omega), if_pos (by omega), if_pos (by omega), if_pos (by omega), yc_bc, xb_I1]
      have hR1 : (I, J, R).2.2 94 18 = 103 := hR
      rw [hR1, if_neg (by decide), if_neg (by decide), if_pos rfl]
      generalize hI1 : xq_upd (xq_upd (xq_upd (xq_upd (xq_upd (xq_upd (xq_upd I 104 0 (Int32.ofNat h)) 104 1 (I 95 (8 + r))) 104 2 (I 97 r)) 104 3 (I 96 r)) 104 4 (Int32.ofNat r)) 104 5 (ym7 (I 95 24))) 104 6 (ybc (I 98 r)) = I1
      have f1 : ∀ k j, ¬ k = 104 → I1 k j = I k j := fun k j hk => by
        rw [← hI1, xu_k hk, xu_k hk, xu_k hk, xu_k hk, xu_k hk, xu_k hk, xu_k hk]
      have f7 : ∀ i, i < 7 → I1 104 i = yth (Int32.ofNat h) (I 95 (8 + r)) (I 97 r) (I 96 r) (Int32.ofNat r) (ym7 (I 95 24)) (ybc (I 98 r)) i := by
        intro i hi
        rw [← hI1]
        rcases (show i = 0 ∨ i = 1 ∨ i = 2 ∨ i = 3 ∨ i = 4 ∨ i = 5 ∨ i = 6 by omega) with rfl | rfl | rfl | rfl | rfl | rfl | rfl <;> simp [xq_upd, yth]
      have eS : ((xq_upd (xq_upd (xq_upd (xq_upd (xq_upd (xq_upd (I, J, R).1 104 0 (Int32.ofNat h)) 104 1 ((I, J, R).1 95 (8 + r))) 104 2 ((I, J, R).1 97 r)) 104 3 ((I, J, R).1 96 r)) 104 4 (Int32.ofNat r)) 104 5 ((I, J, R).1 95 24 - (I, J, R).1 95 24 / (7 : Int32) * (7 : Int32)), (I, J, R).2) : xq_S).1 94 20 = Int32.ofNat n0 := by
        show xq_upd (xq_upd (xq_upd (xq_upd (xq_upd (xq_upd I 104 0 (Int32.ofNat h)) 104 1 (I 95 (8 + r))) 104 2 (I 97 r)) 104 3 (I 96 r)) 104 4 (Int32.ofNat r)) 104 5 (I 95 24 - I 95 24 / (7 : Int32) * (7 : Int32)) 94 20 = _
        rw [xu_k (by decide), xu_k (by decide), xu_k (by decide), xu_k (by decide), xu_k (by decide), xu_k (by decide), hs]
      rw [eS]
      show ∃ v I' R', xq_bV (xq_D xqP (d + 171) 193 [.ref 94, .ref 103, .int (Int32.ofNat n0), .int 40] (xq_upd (xq_upd (xq_upd (xq_upd (xq_upd (xq_upd (xq_upd I 104 0 (Int32.ofNat h)) 104 1 (I 95 (8 + r))) 104 2 (I 97 r)) 104 3 (I 96 r)) 104 4 (Int32.ofNat r)) 104 5 (ym7 (I 95 24))) 104 6 (ybc (I 98 r)), J, R)) _ = _ ∧ _
      rw [hI1, qX8_begin_103_eq, xb_V1]
      generalize hI2 : xq_upd (xq_upd (xq_upd (xq_upd (xq_upd I1 94 13 (Int32.ofNat n0)) 94 14 40) 94 15 0) 94 16 (-1)) 94 21 1 = I2
      generalize hR2 : xq_upd R 94 12 103 = R2
      have f2 : ∀ k j, ¬ (k = 94 ∧ (j = 13 ∨ j = 14 ∨ j = 15 ∨ j = 16 ∨ j = 21)) → I2 k j = I1 k j := fun k j hk => by
        rw [← hI2, xq_upd_n (by omega), xq_upd_n (by omega), xq_upd_n (by omega), xq_upd_n (by omega), xq_upd_n (by omega)]
      have g13 : I2 94 13 = Int32.ofNat n0 := by rw [← hI2, xu_j (by decide), xu_j (by decide), xu_j (by decide), xu_j (by decide), xu_t]
      have g14 : I2 94 14 = Int32.ofNat 40 := by rw [← hI2, xu_j (by decide), xu_j (by decide), xu_j (by decide), xu_t]; rfl
      have g15 : I2 94 15 = Int32.ofNat 0 := by rw [← hI2, xu_j (by decide), xu_j (by decide), xu_t]; rfl
      have g16 : I2 94 16 = -1 := by rw [← hI2, xu_j (by decide), xu_t]
      have g21 : I2 94 21 = 1 := by rw [← hI2, xu_t]
      have g102 : ∀ i, I2 103 i = I 103 i := fun i => (f2 103 i (by omega)).trans (f1 103 i (by decide))
      have hH : yk_H I2 R2 103 n0 40 := ⟨Or.inr ⟨Or.inr rfl, hn0⟩, by rw [← hR2, xu_t], g13, g14, by decide, fun i hi => by rw [g102]; exact hb i (by omega)⟩
      obtain ⟨v, p, w, u1, u2⟩ := yr_val0 (d := d) (J := J) (e := yth (Int32.ofNat h) (I 95 (8 + r)) (I 97 r) (I 96 r) (Int32.ofNat r) (ym7 (I 95 24)) (ybc (I 98 r))) hH (stop := if 40 < n0 then 40 else n0) rfl (fun i hi => by rw [g21, if_neg (by decide), f2 104 i (by omega), f7 i hi]) g15 g16
      have hb9 := ycl_r (v := v) (lo := 0) (hi := 999) (by decide)
      refine ⟨ycl v 0 999, xq_upd (pI I2 p w) 94 21 0, R2, ?_, fun k j h1 h2 => ?_, fun k j hk => ?_, hb9.1, hb9.2, fun z => absurd z hz, fun _ x hx => ?_⟩
      · show xq_bI (xq_D xqP (d + 171) 229 [.ref 94, .int 0] (I2, J, R2)) _ = _
        rw [u1, xb_I1, fin]
      · by_cases hk : k = 94 ∧ j = 21
        · obtain ⟨rfl, rfl⟩ := hk
          rw [xu_t, h21]
        · rw [xq_upd_n hk, pI_o (by omega), f2 k j (by omega), f1 k j h1]
      · rw [← hR2, xq_upd_n hk]
      · have et : yk_t I2 103 n0 40 = yk_t I 103 n0 40 := by
          funext p
          unfold yk_t
          rw [g102]
        rw [u2 x (by rw [et, if_neg (by omega)]; exact hx)]
  rw [qX8_hardOf_95_eq, a8, b4, b3, b2, b1, if_pos (by omega), if_pos (by omega)]
  by_cases h5 : 5 < h
  · rw [if_neg (show ¬ Int32.ofNat h ≤ (5 : Int32) from fun z => by have := (xr_le (b := 5) (by omega) (by decide)).mp z; omega)]
    exact key 9 (by rw [if_pos h5])
  · rw [if_pos (show Int32.ofNat h ≤ (5 : Int32) from (xr_le (b := 5) (by omega) (by decide)).mpr (by omega))]
    exact key 0 (by rw [if_neg h5])
end YNE103
