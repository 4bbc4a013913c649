/-! THE RULE: the reference's rule() -/
section YGF
variable {d n0 : Nat} {I : Nat → Nat → Int32} {J : Nat → Nat → Int64} {R : Nat → Nat → Nat}
theorem yg_rule_r (h8 : I 94 8 = Int32.ofNat n0) (hn0 : n0 ≤ 80) (hb : ∀ i, i < n0 → -128 ≤ (I 99 i).toInt ∧ (I 99 i).toInt ≤ 127) (hR : R 94 18 = 102) : ∃ b I' R', xq_D xqP (d + 173) 276 [.ref 94] (I, J, R) = some (some (.int b), I', J, R') ∧ I' 94 8 = 0 ∧ (∀ k j, ¬ k = 102 → ¬ (k = 94 ∧ (j = 8 ∨ j = 11 ∨ j = 13 ∨ j = 14 ∨ j = 15 ∨ j = 16 ∨ j = 20 ∨ j = 21)) → I' k j = I k j) ∧ (n0 = 0 → b = 0) ∧ (0 < n0 → (∃ p, b = -1 - Int32.ofNat p ∧ p ≤ 40 ∧ yk_o (fun _ => 0) (yk_t I 99 n0 40) n0 (if 40 < n0 then 40 else n0) 0 yk_Q0 = .inl p) ∨ (b = 0 ∧ n0 ≤ 40 ∧ ∃ Q, yk_o (fun _ => 0) (yk_t I 99 n0 40) n0 (if 40 < n0 then 40 else n0) 0 yk_Q0 = .inr Q)) ∧ (b = 0 → I' 94 20 = Int32.ofNat n0 ∧ I' 94 21 = 0 ∧ ∀ j, j < n0 → I' 102 j &&& 255 = I 99 j &&& 255) ∧ (¬ b = 0 → I' 94 20 = I 94 20 ∧ I' 94 21 = 0 ∧ ∀ j, I' 102 j = I 102 j) := by
  have e8 : (xq_upd (I, J, R).1 94 11 0, (I, J, R).2).1 94 8 = Int32.ofNat n0 := by
    show xq_upd I 94 11 0 94 8 = _
    rw [xu_j (by decide), h8]
  have h8' : (I, J, R).1 94 8 = Int32.ofNat n0 := h8
  rw [qX8_rule_eq, qX8_readRule_eq, qX8_beginText_eq, e8, qX8_begin_99_eq, xb_V1, xb_V1, h8']
  show ∃ b I' R', xq_bI (if xq_upd (xq_upd (xq_upd (xq_upd (xq_upd (xq_upd I 94 11 0) 94 13 (Int32.ofNat n0)) 94 14 40) 94 15 0) 94 16 (-1)) 94 8 0 94 13 ≤ 0 then xq_bI (xq_D xqP (d + 171) 297 [.ref 94] (xq_upd (xq_upd (xq_upd (xq_upd (xq_upd (xq_upd (xq_upd I 94 11 0) 94 13 (Int32.ofNat n0)) 94 14 40) 94 15 0) 94 16 (-1)) 94 8 0) 94 21 0, J, xq_upd R 94 12 99)) _ else xq_bI (xq_D xqP (d + 171) 229 [.ref 94, .int 0] (xq_upd (xq_upd (xq_upd (xq_upd (xq_upd (xq_upd (xq_upd I 94 11 0) 94 13 (Int32.ofNat n0)) 94 14 40) 94 15 0) 94 16 (-1)) 94 8 0) 94 21 0, J, xq_upd R 94 12 99)) _) _ = _ ∧ _
  have e13 : xq_upd (xq_upd (xq_upd (xq_upd (xq_upd (xq_upd I 94 11 0) 94 13 (Int32.ofNat n0)) 94 14 40) 94 15 0) 94 16 (-1)) 94 8 0 94 13 = Int32.ofNat n0 := by
    rw [xu_j (by decide), xu_j (by decide), xu_j (by decide), xu_j (by decide), xu_t]
  rw [e13]
  generalize hI2 : xq_upd (xq_upd (xq_upd (xq_upd (xq_upd (xq_upd (xq_upd I 94 11 0) 94 13 (Int32.ofNat n0)) 94 14 40) 94 15 0) 94 16 (-1)) 94 8 0) 94 21 0 = I2
  generalize hR2 : xq_upd R 94 12 99 = R2
  have f2 : ∀ k j, ¬ (k = 94 ∧ (j = 8 ∨ j = 11 ∨ j = 13 ∨ j = 14 ∨ j = 15 ∨ j = 16 ∨ j = 21)) → I2 k j = I k j := fun k j hk => by
    rw [← hI2, xq_upd_n (by omega), xq_upd_n (by omega), xq_upd_n (by omega), xq_upd_n (by omega), xq_upd_n (by omega), xq_upd_n (by omega), xq_upd_n (by omega)]
  have g13 : I2 94 13 = Int32.ofNat n0 := by rw [← hI2, xu_j (by decide), xu_j (by decide), xu_j (by decide), xu_j (by decide), xu_j (by decide), xu_t]
  have g14 : I2 94 14 = Int32.ofNat 40 := by rw [← hI2, xu_j (by decide), xu_j (by decide), xu_j (by decide), xu_j (by decide), xu_t]; rfl
  have g15 : I2 94 15 = Int32.ofNat 0 := by rw [← hI2, xu_j (by decide), xu_j (by decide), xu_j (by decide), xu_t]; rfl
  have g16 : I2 94 16 = -1 := by rw [← hI2, xu_j (by decide), xu_j (by decide), xu_t]
  have g8 : I2 94 8 = 0 := by rw [← hI2, xu_j (by decide), xu_t]
  have g21 : I2 94 21 = 0 := by rw [← hI2, xu_t]
  have g99 : ∀ i, I2 99 i = I 99 i := fun i => f2 99 i (by omega)
  have r18 : R2 94 18 = 102 := by rw [← hR2, xu_j (by decide), hR]
  have r12 : R2 94 12 = 99 := by rw [← hR2, xu_t]
  -- the end of a text that can be read
  have good : ∀ I3 : Nat → Nat → Int32, n0 ≤ 40 → (∀ k j, ¬ (k = 94 ∧ (j = 15 ∨ j = 16)) → I3 k j = I2 k j) → ∃ I', (if ¬ (1 : Int32) = 0 then qX8_rule_h26 (d + 172) (Int32.ofNat n0) 0 (I3, J, R2) else some (some (.int (-1 - I3 94 16)), I3, J, R2)) = some (some (.int 0), I', J, R2) ∧ I' 94 8 = 0 ∧ (∀ k j, ¬ k = 102 → ¬ (k = 94 ∧ (j = 8 ∨ j = 11 ∨ j = 13 ∨ j = 14 ∨ j = 15 ∨ j = 16 ∨ j = 20 ∨ j = 21)) → I' k j = I k j) ∧ (I' 94 20 = Int32.ofNat n0 ∧ I' 94 21 = 0 ∧ ∀ j, j < n0 → I' 102 j &&& 255 = I 99 j &&& 255) := by
    intro I3 h40 h3
    rw [if_pos (show ¬ (1 : Int32) = 0 by decide)]
    obtain ⟨I', x1, x2, x3, x4, -⟩ := yr_copy (d := d + 172) (J := J) (R := R2) h40 r18 n0 0 I3 (by omega)
    refine ⟨I', x1, ?_, fun k j h1 h2 => ?_, x2, ?_, fun j hj => ?_⟩
    · rw [x3 94 8 (by decide) (by decide), h3 94 8 (by decide), g8]
    · rw [x3 k j h1 (by omega), h3 k j (by omega), f2 k j (by omega)]
    · rw [x3 94 21 (by decide) (by decide), h3 94 21 (by decide), g21]
    · rw [x4 j (Nat.zero_le _) hj, h3 99 j (by omega), g99]
      exact yr4_b _
  have bad : ∀ (I3 : Nat → Nat → Int32) (p : Nat), I3 94 16 = Int32.ofNat p → (∀ k j, ¬ (k = 94 ∧ (j = 15 ∨ j = 16)) → I3 k j = I2 k j) → (if ¬ (0 : Int32) = 0 then qX8_rule_h26 (d + 172) (Int32.ofNat n0) 0 (I3, J, R2) else some (some (.int (-1 - I3 94 16)), I3, J, R2)) = some (some (.int (-1 - Int32.ofNat p)), I3, J, R2) ∧ I3 94 8 = 0 ∧ (∀ k j, ¬ k = 102 → ¬ (k = 94 ∧ (j = 8 ∨ j = 11 ∨ j = 13 ∨ j = 14 ∨ j = 15 ∨ j = 16 ∨ j = 20 ∨ j = 21)) → I3 k j = I k j) ∧ I3 94 20 = I 94 20 ∧ I3 94 21 = 0 ∧ ∀ j, I3 102 j = I 102 j := by
    intro I3 p h16 h3
    rw [if_neg (fun z => z rfl), h16]
    refine ⟨rfl, ?_, fun k j h1 h2 => ?_, ?_, ?_, fun j => ?_⟩
    · rw [h3 94 8 (by decide), g8]
    · rw [h3 k j (by omega), f2 k j (by omega)]
    · rw [h3 94 20 (by decide), f2 94 20 (by decide)]
    · rw [h3 94 21 (by decide), g21]
    · rw [h3 102 j (by omega), f2 102 j (by omega)]
  have hm1 : ∀ p, p ≤ 40 → ¬ (-1 : Int32) - Int32.ofNat p = 0 := fun p hp z => by
    have e1 := xt_nat (n := p) (by omega)
    have e2 : ((-1 : Int32)).toInt = -1 := by decide
    have := congrArg Int32.toInt z
    rw [xt_sub (by omega) (by omega), e1, e2] at this
    have e0 : (0 : Int32).toInt = 0 := by decide
    omega
  by_cases hz : n0 = 0
  · subst hz
    rw [if_pos (by decide), xe_wr1 (d := d + 168) g16 g13 g15 (by omega) (by omega), if_pos (Nat.le_refl _), xb_I1, if_pos (Or.inr rfl), xb_I1]
    obtain ⟨I', x1, x2, x3, x4⟩ := good I2 (by omega) (fun _ _ _ => rfl)
    exact ⟨0, I', R2, x1, x2, x3, fun _ => rfl, fun z => absurd z (by omega), fun _ => x4, fun z => absurd rfl z⟩
  · have hst40 : (if 40 < n0 then 40 else n0) ≤ 40 := by split <;> omega
    have hle : ¬ Int32.ofNat n0 ≤ (0 : Int32) := fun z => by
      have := (xr_le (a := n0) (b := 0) (by omega) (by omega)).mp z
      omega
    have hH : yk_H I2 R2 99 n0 40 := ⟨Or.inl ⟨rfl, hn0⟩, r12, g13, g14, by decide, fun i hi => by rw [g99]; exact hb i hi⟩
    obtain ⟨v, p, w, u1, u2, u3⟩ := yr_held0 (d := d) (J := J) (e := fun _ => 0) hH rfl (fun i _ => by rw [g21, if_pos rfl]) g15 g16
    have et : yk_t I2 99 n0 40 = yk_t I 99 n0 40 := by
      funext p
      unfold yk_t
      rw [g99]
    rw [et] at u3
    rw [if_neg hle, u1, xb_I1]
    have hp : ∀ w k j, ¬ (k = 94 ∧ (j = 15 ∨ j = 16)) → pI I2 p w k j = I2 k j := fun w k j h => pI_o h
    rcases u3 with ⟨hw, h⟩ | ⟨hw, h, h'⟩
    · subst hw
      rw [xe_wr0 (d := d + 168) (w := Int32.ofNat p) rfl (xr_ne1 (by omega)), xb_I1, if_pos (Or.inl rfl), xb_I1]
      obtain ⟨x1, x2, x3, x4⟩ := bad (pI I2 p (Int32.ofNat p)) p rfl (hp _)
      exact ⟨_, _, R2, x1, x2, x3, fun z => absurd z hz, fun _ => Or.inl ⟨p, rfl, by omega, h⟩, fun z => absurd z (hm1 p (by omega)), fun _ => x4⟩
    · subst hw
      rw [xe_wr1 (d := d + 168) (p := p) (n0 := n0) (I := pI I2 p (-1)) rfl ((hp (-1) 94 13 (by decide)).trans g13) rfl (by omega) (by omega)]
      by_cases hpn : n0 ≤ p
      · obtain ⟨Q, k1, k2⟩ := h' hpn
        rw [if_pos hpn, xb_I1, if_pos (Or.inr rfl), xb_I1]
        obtain ⟨I', x1, x2, x3, x4⟩ := good (pI I2 p (-1)) (by omega) (hp _)
        exact ⟨0, I', R2, x1, x2, x3, fun z => absurd z hz, fun _ => Or.inr ⟨rfl, by omega, Q, k1⟩, fun _ => x4, fun z => absurd rfl z⟩
      · rw [if_neg hpn, xb_I1, if_pos (Or.inl rfl), xb_I1, pI16]
        obtain ⟨x1, x2, x3, x4⟩ := bad (pI I2 p (Int32.ofNat p)) p rfl (hp _)
        exact ⟨_, _, R2, x1, x2, x3, fun z => absurd z hz, fun _ => Or.inl ⟨p, rfl, by omega, h (by omega)⟩, fun z => absurd z (hm1 p (by omega)), fun _ => x4⟩
end YGF
