/-! law(): the texts of both, read -/
theorem yb_nar (x : Int32) : -128 ≤ (vp_nar .byte x).toInt ∧ (vp_nar .byte x).toInt ≤ 127 := by
  have h1 := Int8.le_toInt x.toInt8
  have h2 := Int8.toInt_lt x.toInt8
  show -128 ≤ (x.toInt8.toInt32).toInt ∧ (x.toInt8.toInt32).toInt ≤ 127
  rw [Int8.toInt_toInt32]
  omega
section YU27
variable {d n0 : Nat} {I : Nat → Nat → Int32} {J : Nat → Nat → Int64} {R : Nat → Nat → Nat} {T : Nat → Int32}
/-- what a text says by its value -/
def yLt (T : Nat → Int32) (n0 : Nat) (C : List Int32) (val : (Nat → Int32) → Int32) : Prop := yLv C T n0 val
/-- the class reads THE TEXT into its spare rule -/
theorem yg_spare_c (h11 : I 1 1 = Int32.ofNat n0) (hn0 : n0 ≤ 80) (hT : ∀ i, i < n0 → i < 40 → I 2 i = T i ∧ 0 ≤ (T i).toInt ∧ (T i).toInt ≤ 255) (hR2 : R 0 14 = 83) : ∃ a0 I', xq_D xqP (d + 7) 155 [.ref 0] (I, J, R) = some (some (.int a0), I', J, R) ∧ (∀ k j, ¬ (83 ≤ k ∧ k ≤ 87) → ¬ (k = 1 ∧ j = 1) → I' k j = I k j) ∧ I' 1 1 = 0 ∧ (n0 = 0 → a0 = -1 ∧ ∃ sz, I' 83 4 = Int32.ofNat sz ∧ sz ≤ 40 ∧ ∀ e, yk_evl e (yv_c (I' 84) sz) = [yg_v1 e]) ∧ (0 < n0 → ∀ e, yg_R e (yk_o e T n0 (if 40 < n0 then 40 else n0) 0 yk_Q0) a0 I') := by
  obtain ⟨a0, I1, x1, x2, x3, x4⟩ := yg_read (d := d) (J := J) (R := R) h11 hn0 hT
  have hR2' : (I, J, R).2.2 0 14 = 83 := hR2
  have f84 : xq_upd I1 1 1 0 84 = I1 84 := funext fun j => xu_k (by decide)
  refine ⟨a0, xq_upd I1 1 1 0, ?_, fun k j h1 h2 => by rw [xq_upd_n h2]; exact x2 k j h1, xu_t, fun z => ?_, fun z e => ?_⟩
  · rw [qX7_readSpare_eq, hR2', if_neg (by decide), if_pos rfl, x1, xb_I1, qX6_empty_eq, xb_V1]
  · obtain ⟨y1, sz, y2, y3, y4⟩ := x3 z
    exact ⟨y1, sz, by rw [xu_k (by decide)]; exact y2, y3, fun e => by rw [f84]; exact y4 e⟩
  · have hy := x4 z e
    generalize yk_o e T n0 (if 40 < n0 then 40 else n0) 0 yk_Q0 = o at hy ⊢
    cases o with
    | inl p => exact hy
    | inr Q =>
      obtain ⟨y1, sz, y2, y3, y4⟩ := hy
      exact ⟨y1, sz, by rw [xu_k (by decide)]; exact y2, y3, by rw [f84]; exact y4⟩
/-- readRule() of the reference -/
theorem yg_rrule (h8 : I 94 8 = Int32.ofNat n0) (hn0 : n0 ≤ 80) (hb : ∀ i, i < n0 → -128 ≤ (I 99 i).toInt ∧ (I 99 i).toInt ≤ 127) : ∃ b I' R', xq_D xqP (d + 172) 268 [.ref 94] (I, J, R) = some (some (.int b), I', J, R') ∧ I' 94 8 = 0 ∧ I' 94 21 = 0 ∧ (∀ k j, ¬ (k = 94 ∧ (j = 8 ∨ j = 13 ∨ j = 14 ∨ j = 15 ∨ j = 16 ∨ j = 21)) → I' k j = I k j) ∧ (∀ k j, ¬ (k = 94 ∧ j = 12) → R' k j = R k j) ∧ ((b = 1 ∧ n0 ≤ 40 ∧ (0 < n0 → ∃ Q, yk_o (fun _ => 0) (yk_t I 99 n0 40) n0 (if 40 < n0 then 40 else n0) 0 yk_Q0 = .inr Q)) ∨ (b = 0 ∧ 0 < n0 ∧ ∃ p, p ≤ 40 ∧ I' 94 16 = Int32.ofNat p ∧ yk_o (fun _ => 0) (yk_t I 99 n0 40) n0 (if 40 < n0 then 40 else n0) 0 yk_Q0 = .inl p)) := by
  have h8' : (I, J, R).1 94 8 = Int32.ofNat n0 := h8
  rw [qX8_readRule_eq, qX8_beginText_eq, h8', qX8_begin_99_eq, xb_V1, xb_V1]
  show ∃ b I' R', (if xq_upd (xq_upd (xq_upd (xq_upd (xq_upd I 94 13 (Int32.ofNat n0)) 94 14 40) 94 15 0) 94 16 (-1)) 94 8 0 94 13 ≤ 0 then xq_bI (xq_D xqP (d + 171) 297 [.ref 94] (xq_upd (xq_upd (xq_upd (xq_upd (xq_upd (xq_upd I 94 13 (Int32.ofNat n0)) 94 14 40) 94 15 0) 94 16 (-1)) 94 8 0) 94 21 0, J, xq_upd R 94 12 99)) _ else xq_bI (xq_D xqP (d + 171) 229 [.ref 94, .int 0] (xq_upd (xq_upd (xq_upd (xq_upd (xq_upd (xq_upd I 94 13 (Int32.ofNat n0)) 94 14 40) 94 15 0) 94 16 (-1)) 94 8 0) 94 21 0, J, xq_upd R 94 12 99)) _) = _ ∧ _
  have e13 : xq_upd (xq_upd (xq_upd (xq_upd (xq_upd I 94 13 (Int32.ofNat n0)) 94 14 40) 94 15 0) 94 16 (-1)) 94 8 0 94 13 = Int32.ofNat n0 := by
    rw [xu_j (by decide), xu_j (by decide), xu_j (by decide), xu_j (by decide), xu_t]
  rw [e13]
  generalize hI2 : xq_upd (xq_upd (xq_upd (xq_upd (xq_upd (xq_upd I 94 13 (Int32.ofNat n0)) 94 14 40) 94 15 0) 94 16 (-1)) 94 8 0) 94 21 0 = I2
  generalize hR2 : xq_upd R 94 12 99 = R2
  have f2 : ∀ k j, ¬ (k = 94 ∧ (j = 8 ∨ j = 13 ∨ j = 14 ∨ j = 15 ∨ j = 16 ∨ j = 21)) → I2 k j = I k j := fun k j hk => by
    rw [← hI2, xq_upd_n (by omega), xq_upd_n (by omega), xq_upd_n (by omega), xq_upd_n (by omega), xq_upd_n (by omega), xq_upd_n (by omega)]
  have g13 : I2 94 13 = Int32.ofNat n0 := by rw [← hI2, xu_j (by decide), xu_j (by decide), xu_j (by decide), xu_j (by decide), xu_j (by decide), xu_t]
  have g14 : I2 94 14 = Int32.ofNat 40 := by rw [← hI2, xu_j (by decide), xu_j (by decide), xu_j (by decide), xu_j (by decide), xu_t]; rfl
  have g15 : I2 94 15 = Int32.ofNat 0 := by rw [← hI2, xu_j (by decide), xu_j (by decide), xu_j (by decide), xu_t]; rfl
  have g16 : I2 94 16 = -1 := by rw [← hI2, xu_j (by decide), xu_j (by decide), xu_t]
  have g8 : I2 94 8 = 0 := by rw [← hI2, xu_j (by decide), xu_t]
  have g21 : I2 94 21 = 0 := by rw [← hI2, xu_t]
  have g99 : ∀ i, I2 99 i = I 99 i := fun i => f2 99 i (by omega)
  have r12 : R2 94 12 = 99 := by rw [← hR2, xu_t]
  have rr : ∀ k j, ¬ (k = 94 ∧ j = 12) → R2 k j = R k j := fun k j h => by rw [← hR2, xq_upd_n h]
  have fp : ∀ p w k j, ¬ (k = 94 ∧ (j = 15 ∨ j = 16)) → pI I2 p w k j = I2 k j := fun p w k j h => pI_o h
  have post : ∀ p w, pI I2 p w 94 8 = 0 ∧ pI I2 p w 94 21 = 0 ∧ ∀ k j, ¬ (k = 94 ∧ (j = 8 ∨ j = 13 ∨ j = 14 ∨ j = 15 ∨ j = 16 ∨ j = 21)) → pI I2 p w k j = I k j := fun p w => ⟨(fp p w 94 8 (by decide)).trans g8, (fp p w 94 21 (by decide)).trans g21, fun k j h => (fp p w k j (by omega)).trans (f2 k j h)⟩
  by_cases hz : n0 = 0
  · subst hz
    rw [if_pos (by decide), xe_wr1 (d := d + 168) g16 g13 g15 (by omega) (by omega), if_pos (Nat.le_refl _), xb_I1, if_pos (Or.inr rfl)]
    exact ⟨1, I2, R2, rfl, g8, g21, f2, rr, Or.inl ⟨rfl, by omega, fun z => absurd z (by omega)⟩⟩
  · have hst40 : (if 40 < n0 then 40 else n0) ≤ 40 := by split <;> omega
    have hle : ¬ Int32.ofNat n0 ≤ (0 : Int32) := fun z => by
      have := (xr_le (a := n0) (b := 0) (by omega) (by omega)).mp z
      omega
    have hH : yk_H I2 R2 99 n0 40 := ⟨Or.inl ⟨rfl, hn0⟩, r12, g13, g14, by decide, fun i hi => by rw [g99]; exact hb i hi⟩
    obtain ⟨v, p, w, u1, u2, u3⟩ := yr_held0 (d := d) (J := J) (e := fun _ => 0) hH rfl (fun i _ => by rw [g21, if_pos rfl]) g15 g16
    have et : yk_t I2 99 n0 40 = yk_t I 99 n0 40 := by
      funext p
      unfold yk_t
      rw [g99]
    rw [et] at u3
    rw [if_neg hle, u1, xb_I1]
    rcases u3 with ⟨hw, h⟩ | ⟨hw, h, h'⟩
    · subst hw
      obtain ⟨q1, q2, q3⟩ := post p (Int32.ofNat p)
      rw [xe_wr0 (d := d + 168) (w := Int32.ofNat p) rfl (xr_ne1 (by omega)), xb_I1, if_pos (Or.inl rfl)]
      exact ⟨0, _, R2, rfl, q1, q2, q3, rr, Or.inr ⟨rfl, by omega, p, by omega, rfl, h⟩⟩
    · subst hw
      rw [xe_wr1 (d := d + 168) (p := p) (n0 := n0) (I := pI I2 p (-1)) rfl ((fp p (-1) 94 13 (by decide)).trans g13) rfl (by omega) (by omega)]
      by_cases hpn : n0 ≤ p
      · obtain ⟨Q, k1, k2⟩ := h' hpn
        obtain ⟨q1, q2, q3⟩ := post p (-1)
        rw [if_pos hpn, xb_I1, if_pos (Or.inr rfl)]
        exact ⟨1, _, R2, rfl, q1, q2, q3, rr, Or.inl ⟨rfl, by omega, fun _ => ⟨Q, k1⟩⟩⟩
      · obtain ⟨q1, q2, q3⟩ := post p (Int32.ofNat p)
        rw [if_neg hpn, xb_I1, if_pos (Or.inl rfl), pI16]
        exact ⟨0, _, R2, rfl, q1, q2, q3, rr, Or.inr ⟨rfl, by omega, p, by omega, rfl, h (by omega)⟩⟩
/-- the spare rule's value, when the text can be read -/
theorem yg_sval {I' : Nat → Nat → Int32} {a0 : Int32} (hn0 : n0 ≤ 80) (hb : ∀ i, i < n0 → -128 ≤ (I 99 i).toInt ∧ (I 99 i).toInt ≤ 127) (ha : a0 = -1) (h40 : n0 ≤ 40) (c5 : n0 = 0 → a0 = -1 ∧ ∃ sz, I' 83 4 = Int32.ofNat sz ∧ sz ≤ 40 ∧ ∀ e, yk_evl e (yv_c (I' 84) sz) = [yg_v1 e]) (c6 : 0 < n0 → ∀ e, yg_R e (yk_o e (yk_t I 99 n0 40) n0 (if 40 < n0 then 40 else n0) 0 yk_Q0) a0 I') : ∃ sz val, I' 83 4 = Int32.ofNat sz ∧ sz ≤ 40 ∧ yLv (yv_c (I' 84) sz) (yk_t I 99 n0 40) n0 val := by
  by_cases hz0 : n0 = 0
  · obtain ⟨-, sz, w1, w2, w3⟩ := c5 hz0
    exact ⟨sz, yg_v1, w1, w2, fun e => ⟨w3 e, fun _ => rfl, fun z => absurd hz0 (by omega)⟩⟩
  · have est : (if 40 < n0 then 40 else n0) = n0 := if_neg (by omega)
    have all : ∀ e, ∃ Q, yk_o e (yk_t I 99 n0 40) n0 n0 0 yk_Q0 = .inr Q ∧ ∃ sz, I' 83 4 = Int32.ofNat sz ∧ sz ≤ 40 ∧ yk_evl e (yv_c (I' 84) sz) = (yk_fl 1 Q.2.2.2.2.2 Q.2.2.2.2.1).2 := by
      intro e
      have y := c6 (by omega) e
      rw [est] at y
      generalize ho : yk_o e (yk_t I 99 n0 40) n0 n0 0 yk_Q0 = o at y
      cases o with
      | inl p =>
        obtain ⟨z1, z2⟩ := y
        rw [ha] at z1
        exact absurd z1.symm (xr_ne1 (by omega))
      | inr Q => exact ⟨Q, rfl, y.2⟩
    obtain ⟨-, -, sz, w1, w2, -⟩ := all (fun _ => 0)
    have key : ∀ e, ∃ v, yk_evl e (yv_c (I' 84) sz) = [v] ∧ yok e (yk_t I 99 n0 40) n0 n0 v := fun e => by
      obtain ⟨Q, z1, sz', z2, z3, z4⟩ := all e
      rw [w1] at z2
      have := xr_nat_inj (by omega) (by omega) z2
      subst this
      obtain ⟨v, hv⟩ := yok_all (I := I) (e := e) (stop := n0) (by omega) (fun i hi => hb i hi) est.symm z1
      rw [hv] at z4
      exact ⟨v, z4, Q, z1, hv⟩
    exact ⟨sz, fun e => (key e).choose, w1, w2, fun e => ⟨(key e).choose_spec.1, fun z => absurd z hz0, fun _ => (key e).choose_spec.2⟩⟩
/-- the reference's copy of a text into its other rule -/
theorem yr_copy3 {n : Nat} {a b : Int32} (hn : n ≤ 40) (hR : R 94 18 = 103) : ∀ (m i : Nat) (I : Nat → Nat → Int32), i + m = n → ∃ I', qX8_law_h58a d (Int32.ofNat n) a b (Int32.ofNat i) (I, J, R) = qX8_law_h58a d (Int32.ofNat n) a b (Int32.ofNat n) (I', J, R) ∧ (∀ k j, ¬ k = 103 → I' k j = I k j) ∧ (∀ j, i ≤ j → j < n → I' 103 j = vp_nar .byte (I 99 j)) ∧ ∀ j, j < i ∨ n ≤ j → I' 103 j = I 103 j
  | 0, i, I, hi => by
    have : i = n := by omega
    subst this
    exact ⟨I, rfl, fun _ _ _ => rfl, fun j h1 h2 => by omega, fun _ _ => rfl⟩
  | m + 1, i, I, hi => by
    have b1 := xt_nat (n := i) (by omega)
    have b2 : (Int32.ofNat i).toInt.toNat = i := by omega
    have a1 : Int32.ofNat i + (1 : Int32) = Int32.ofNat (i + 1) := (Int32.ofNat_add i 1).symm
    have hR' : (I, J, R).2.2 94 18 = 103 := hR
    obtain ⟨I', x1, x3, x4, x5⟩ := yr_copy3 hn hR m (i + 1) (xq_upd I 103 i (vp_nar .byte (I 99 i))) (by omega)
    refine ⟨I', ?_, fun k j h1 => (x3 k j h1).trans (xu_k h1), fun j h1 h2 => ?_, fun j h => ?_⟩
    · rw [qX8_law_h58a_eq, if_neg (fun z => by have := (xr_le (by omega) (by omega)).mp z; omega), hR', if_neg (by decide), if_neg (by decide), if_pos rfl, b2, b1, if_pos (by omega), if_pos (by omega), a1]
      exact x1
    · by_cases g : j = i
      · subst g
        rw [x5 j (by omega), xu_t]
      · rw [x4 j (by omega) h2, xu_k (by decide)]
    · rw [x5 j (by omega), xu_j (by omega)]
end YU27
