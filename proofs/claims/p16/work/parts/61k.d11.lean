/-! HELD ROTAS: solve() of the reference: one set of hours of a rider with all that is left -/
def yd_FAR : Int := 1000000000
section YDL
variable {d r own full : Nat} {I : Nat → Nat → Int32} {J : Nat → Nat → Int64} {R : Nat → Nat → Nat} {v1 x : Int32}
/-- what one set of hours makes of a cell -/
def yd_c1 (own : Nat) (w : Int) (B : Nat → Int) (lim : Int) (old : Nat → Int) (t : Nat) (y : Int) : Prop := (own &&& t = own ∧ ((t ^^^ own : Nat) : Int) ≤ lim ∧ B (t ^^^ own) < yd_FAR → y = if B (t ^^^ own) + w < old t then B (t ^^^ own) + w else old t) ∧ (¬ (own &&& t = own ∧ ((t ^^^ own : Nat) : Int) ≤ lim ∧ B (t ^^^ own) < yd_FAR) → y = old t)
theorem yd_left {n : Nat} (hn : n ≤ 8) (hfull : full = 2 ^ n - 1) (hr : r < 8) (ho : own &&& full = own) (hx : 0 ≤ x.toInt ∧ x.toInt ≤ 1000000) : ∀ (left : Nat) (I : Nat → Nat → Int32), left &&& (full ^^^ own) = left → (∀ t, t ≤ full → 0 ≤ (I 116 (256 * (r + 1) + t)).toInt ∧ (I 116 (256 * (r + 1) + t)).toInt ≤ yd_FAR ∧ 0 ≤ (I 116 (256 * r + t)).toInt ∧ (I 116 (256 * r + t)).toInt ≤ yd_FAR) → ∃ I', qX8_solve_h126 d v1 (Int32.ofNat r) (Int32.ofNat own) x (Int32.ofNat (full ^^^ own)) (Int32.ofNat left) (I, J, R) = qX8_solve_h126 d v1 (Int32.ofNat r) (Int32.ofNat own) x (Int32.ofNat (full ^^^ own)) (-1) (I', J, R) ∧ (∀ k j, ¬ k = 116 → I' k j = I k j) ∧ (∀ j, ¬ (256 * r ≤ j ∧ j ≤ 256 * r + full) → I' 116 j = I 116 j) ∧ ∀ t, t ≤ full → yd_c1 own x.toInt (fun t => (I 116 (256 * (r + 1) + t)).toInt) (left : Int) (fun t => (I 116 (256 * r + t)).toInt) t (I' 116 (256 * r + t)).toInt := by
  have hf := (yd_full n (by omega)).2
  rw [← hfull] at hf
  have hFAR : yd_FAR = 1000000000 := rfl
  have e9 : (1000000000 : Int32).toInt = 1000000000 := by decide
  intro left
  induction left using Nat.strongRecOn with
  | _ left ih =>
    intro I hl hb
    obtain ⟨k1, k2, k3⟩ := yd_lor2 ho hl
    have hlo := yd_le k3
    have hxl := yd_xlt ho
    have hll := yd_le hl
    have ho256 := yd_le ho
    have a1 : Int32.ofNat r + (1 : Int32) = Int32.ofNat (r + 1) := (Int32.ofNat_add r 1).symm
    have i1 := yd_row (r + 1) (by omega) left (by omega)
    have i2 : ((Int32.ofNat r <<< ((8 : Int32) &&& 31)) ||| Int32.ofNat left) ||| Int32.ofNat own = Int32.ofNat (256 * r + (left ||| own)) := by
      rw [Int32.or_assoc, yd_or]
      exact yd_row r (by omega) (left ||| own) (by omega)
    have c1 := xt_nat (n := 256 * (r + 1) + left) (by omega)
    have c2 : (Int32.ofNat (256 * (r + 1) + left)).toInt.toNat = 256 * (r + 1) + left := by omega
    have d1 := xt_nat (n := 256 * r + (left ||| own)) (by omega)
    have d2 : (Int32.ofNat (256 * r + (left ||| own))).toInt.toNat = 256 * r + (left ||| own) := by omega
    have hneg : ¬ Int32.ofNat left < (0 : Int32) := fun z => by
      have := xt_lt.mp z
      rw [xt_nat (by omega)] at this
      have e0 : (0 : Int32).toInt = 0 := by decide
      omega
    -- the step to the next
    have stp : ∀ (v7 : Int32) (I2 : Nat → Nat → Int32), ∃ nx : Int32, qX8_solve_h190 d v1 (Int32.ofNat r) (Int32.ofNat own) x (Int32.ofNat (full ^^^ own)) (Int32.ofNat left) v7 (I2, J, R) = qX8_solve_h126 d v1 (Int32.ofNat r) (Int32.ofNat own) x (Int32.ofNat (full ^^^ own)) nx (I2, J, R) ∧ ((left = 0 ∧ nx = -1) ∨ (0 < left ∧ nx = Int32.ofNat ((left - 1) &&& (full ^^^ own)))) := by
      intro v7 I2
      rw [qX8_solve_h190_eq]
      by_cases z : left = 0
      · subst z
        rw [if_neg (fun z => z rfl), qX8_solve_h206_eq]
        exact ⟨_, rfl, Or.inl ⟨rfl, rfl⟩⟩
      · have hne : ¬ Int32.ofNat left = 0 := fun q => by
          have := congrArg Int32.toInt q
          rw [xt_nat (by omega)] at this
          have e0 : (0 : Int32).toInt = 0 := by decide
          omega
        rw [if_pos hne, qX8_solve_h206_eq, yd_sub1 (by omega), yd_and]
        exact ⟨_, rfl, Or.inr ⟨by omega, rfl⟩⟩
    -- the cells that lie above are as this step leaves them
    have fin : ∀ (I2 : Nat → Nat → Int32) (nx : Int32), ((left = 0 ∧ nx = -1) ∨ (0 < left ∧ nx = Int32.ofNat ((left - 1) &&& (full ^^^ own)))) → (∀ k j, ¬ k = 116 → I2 k j = I k j) → (∀ j, ¬ j = 256 * r + (left ||| own) → I2 116 j = I 116 j) → (0 ≤ (I2 116 (256 * r + (left ||| own))).toInt ∧ (I2 116 (256 * r + (left ||| own))).toInt ≤ yd_FAR) → ((I 116 (256 * (r + 1) + left)).toInt < yd_FAR → (I2 116 (256 * r + (left ||| own))).toInt = if (I 116 (256 * (r + 1) + left)).toInt + x.toInt < (I 116 (256 * r + (left ||| own))).toInt then (I 116 (256 * (r + 1) + left)).toInt + x.toInt else (I 116 (256 * r + (left ||| own))).toInt) → (¬ (I 116 (256 * (r + 1) + left)).toInt < yd_FAR → I2 116 (256 * r + (left ||| own)) = I 116 (256 * r + (left ||| own))) → ∃ I', qX8_solve_h126 d v1 (Int32.ofNat r) (Int32.ofNat own) x (Int32.ofNat (full ^^^ own)) nx (I2, J, R) = qX8_solve_h126 d v1 (Int32.ofNat r) (Int32.ofNat own) x (Int32.ofNat (full ^^^ own)) (-1) (I', J, R) ∧ (∀ k j, ¬ k = 116 → I' k j = I k j) ∧ (∀ j, ¬ (256 * r ≤ j ∧ j ≤ 256 * r + full) → I' 116 j = I 116 j) ∧ ∀ t, t ≤ full → yd_c1 own x.toInt (fun t => (I 116 (256 * (r + 1) + t)).toInt) (left : Int) (fun t => (I 116 (256 * r + t)).toInt) t (I' 116 (256 * r + t)).toInt := by
      intro I2 nx hnx f1 f2 f3 f4 f5
      have same : ∀ t, own &&& t = own → t ≤ full → t ^^^ own = left → t = left ||| own := fun t h1 h2 h3 => by
        rw [← h3, yd_lor h1]
      -- the cell of this step
      have here : yd_c1 own x.toInt (fun t => (I 116 (256 * (r + 1) + t)).toInt) (left : Int) (fun t => (I 116 (256 * r + t)).toInt) (left ||| own) (I2 116 (256 * r + (left ||| own))).toInt := by
        refine ⟨fun z => ?_, fun z => ?_⟩
        · obtain ⟨z1, z2, z3⟩ := z
          rw [k2] at z3 ⊢
          exact f4 z3
        · have : ¬ (I 116 (256 * (r + 1) + left)).toInt < yd_FAR := fun q => z ⟨k1, by rw [k2]; exact Int.le_refl _, by rw [k2]; exact q⟩
          rw [f5 this]
      rcases hnx with ⟨h0, hnx⟩ | ⟨h0, hnx⟩
      · subst hnx
        refine ⟨I2, rfl, f1, fun j hj => f2 j (by omega), fun t ht => ?_⟩
        by_cases e : t = left ||| own
        · rw [e]
          exact here
        · have e2 : I2 116 (256 * r + t) = I 116 (256 * r + t) := f2 _ (by omega)
          rw [e2]
          refine ⟨fun z => ?_, fun _ => rfl⟩
          obtain ⟨z1, z2, z3⟩ := z
          exact absurd (same t z1 ht (by omega)) e
      · subst hnx
        have hs : ((left - 1) &&& (full ^^^ own)) &&& (full ^^^ own) = (left - 1) &&& (full ^^^ own) := yd_ss.mpr (fun i hi => by
          rw [Nat.testBit_and] at hi
          simp only [Bool.and_eq_true] at hi
          exact hi.2)
        have hlt : (left - 1) &&& (full ^^^ own) < left := Nat.lt_of_le_of_lt Nat.and_le_left (by omega)
        have g1 : ∀ t, t ≤ full → I2 116 (256 * (r + 1) + t) = I 116 (256 * (r + 1) + t) := fun t ht => f2 _ (by omega)
        obtain ⟨I', y1, y2, y3, y4⟩ := ih _ hlt I2 hs (fun t ht => by
          obtain ⟨q1, q2, q3, q4⟩ := hb t ht
          rw [g1 t ht]
          by_cases e : t = left ||| own
          · rw [e]
            exact ⟨by rw [← e]; exact q1, by rw [← e]; exact q2, f3⟩
          · rw [f2 (256 * r + t) (by omega)]
            exact ⟨q1, q2, q3, q4⟩)
        refine ⟨I', y1, fun k j hk => (y2 k j hk).trans (f1 k j hk), fun j hj => (y3 j hj).trans (f2 j (by omega)), fun t ht => ?_⟩
        obtain ⟨p1, p2⟩ := y4 t ht
        have gB : (I2 116 (256 * (r + 1) + (t ^^^ own))).toInt = (I 116 (256 * (r + 1) + (t ^^^ own))).toInt ∨ ¬ own &&& t = own := by
          by_cases q : own &&& t = own
          · left
            have := yd_xlt q
            rw [g1 _ (by omega)]
          · exact Or.inr q
        by_cases e : t = left ||| own
        · subst e
          have : (I' 116 (256 * r + (left ||| own))).toInt = (I2 116 (256 * r + (left ||| own))).toInt := p2 (fun z => by
            obtain ⟨z1, z2, z3⟩ := z
            rw [k2] at z2
            omega)
          rw [this]
          exact here
        · have e2 : (I2 116 (256 * r + t)).toInt = (I 116 (256 * r + t)).toInt := by rw [f2 _ (by omega)]
          refine ⟨fun z => ?_, fun z => ?_⟩
          · obtain ⟨z1, z2, z3⟩ := z
            have z2 : ((t ^^^ own : Nat) : Int) ≤ (left : Int) := z2
            have hne : t ^^^ own ≠ left := fun q => e (same t z1 ht q)
            have hsl : (t ^^^ own) &&& (full ^^^ own) = t ^^^ own := yd_ss.mpr (fun i hi => by
              have ht2 : t &&& full = t := by rw [hfull]; exact yd_sub2 (by omega)
              rw [yd_tb z1] at hi
              simp only [Bool.and_eq_true, Bool.not_eq_true'] at hi
              rw [yd_tb ho, yd_ss.mp ht2 i hi.1, hi.2]
              rfl)
            have hpv := yd_prev left (full ^^^ own) (t ^^^ own) hl hsl (by omega)
            have gB := gB.resolve_right (fun q => q z1)
            have p1 := p1 ⟨z1, by omega, by show (I2 116 (256 * (r + 1) + (t ^^^ own))).toInt < yd_FAR; rw [gB]; exact z3⟩
            have p1 : (I' 116 (256 * r + t)).toInt = if (I2 116 (256 * (r + 1) + (t ^^^ own))).toInt + x.toInt < (I2 116 (256 * r + t)).toInt then (I2 116 (256 * (r + 1) + (t ^^^ own))).toInt + x.toInt else (I2 116 (256 * r + t)).toInt := p1
            rw [gB, e2] at p1
            exact p1
          · have : (I' 116 (256 * r + t)).toInt = (I2 116 (256 * r + t)).toInt := p2 (fun q => by
              obtain ⟨q1, q2, q3⟩ := q
              have gB := gB.resolve_right (fun q => q q1)
              have q3 : (I2 116 (256 * (r + 1) + (t ^^^ own))).toInt < yd_FAR := q3
              rw [gB] at q3
              exact z ⟨q1, by omega, q3⟩)
            rw [this, e2]
    have hbl := hb left (by omega)
    have hbo := hb (left ||| own) (by omega)
    have hv7 : ((I, J, R) : xq_S).1 116 (256 * (r + 1) + left) = I 116 (256 * (r + 1) + left) := rfl
    have hle : ((1000000000 : Int32) ≤ I 116 (256 * (r + 1) + left)) ↔ ¬ (I 116 (256 * (r + 1) + left)).toInt < yd_FAR := by
      rw [xt_le, e9]
      omega
    rw [qX8_solve_h126_eq, if_neg hneg, a1, i1, c2, c1, if_pos (by omega), hv7]
    by_cases g : (I 116 (256 * (r + 1) + left)).toInt < yd_FAR
    · rw [if_neg (fun z => hle.mp z g), i2, d2, d1, if_pos (by omega), if_pos (by omega)]
      obtain ⟨nx, s1, s2⟩ := stp (I 116 (256 * (r + 1) + left)) (xq_upd I 116 (256 * r + (left ||| own)) (if I 116 (256 * (r + 1) + left) + x < I 116 (256 * r + (left ||| own)) then I 116 (256 * (r + 1) + left) + x else I 116 (256 * r + (left ||| own))))
      have hsum : (I 116 (256 * (r + 1) + left) + x).toInt = (I 116 (256 * (r + 1) + left)).toInt + x.toInt := xt_add (by omega) (by omega)
      have hval : (if I 116 (256 * (r + 1) + left) + x < I 116 (256 * r + (left ||| own)) then I 116 (256 * (r + 1) + left) + x else I 116 (256 * r + (left ||| own))).toInt = if (I 116 (256 * (r + 1) + left)).toInt + x.toInt < (I 116 (256 * r + (left ||| own))).toInt then (I 116 (256 * (r + 1) + left)).toInt + x.toInt else (I 116 (256 * r + (left ||| own))).toInt := by
        by_cases q : (I 116 (256 * (r + 1) + left)).toInt + x.toInt < (I 116 (256 * r + (left ||| own))).toInt
        · rw [if_pos q, if_pos (xt_lt.mpr (by omega)), hsum]
        · rw [if_neg q, if_neg (fun z => q (by have := xt_lt.mp z; omega))]
      have := fin (xq_upd I 116 (256 * r + (left ||| own)) (if I 116 (256 * (r + 1) + left) + x < I 116 (256 * r + (left ||| own)) then I 116 (256 * (r + 1) + left) + x else I 116 (256 * r + (left ||| own)))) nx s2 (fun k j hk => xu_k hk) (fun j hj => xu_j hj) (by
        rw [xu_t, hval]
        split <;> omega) (fun _ => by rw [xu_t]; exact hval) (fun z => absurd g z)
      rw [← s1] at this
      exact this
    · rw [if_pos (hle.mpr g)]
      obtain ⟨nx, s1, s2⟩ := stp (I 116 (256 * (r + 1) + left)) I
      rw [s1]
      exact fin I nx s2 (fun _ _ _ => rfl) (fun _ _ => rfl) ⟨hbo.2.2.1, hbo.2.2.2⟩ (fun z => absurd z g) (fun _ => rfl)
end YDL
