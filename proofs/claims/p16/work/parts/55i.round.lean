/-! slots; rounds, purely -/
/-- slots of ints that there are -/
noncomputable def xv (k j : Nat) : Bool := match zrget xqT k with
  | some (.inl q) => (match zget q.2 j with
    | some t => Nat.beq t 0 || Nat.beq t 4
    | none => false)
  | some (.inr q) => (Nat.beq q.1 0 || (Nat.beq q.1 2 || Nat.beq q.1 3)) && Nat.ble (j + 1) q.2
  | none => false
def xz_eq (I I' : Nat → Nat → Int32) : Prop := ∀ k j, xv k j = true → I' k j = I k j
def xz_R (R : Nat → Nat → Nat) : Prop := R 3 9 = 10 ∧ R 0 14 = 83 ∧ R 94 18 = 102 ∧ R 94 19 = 103
theorem xv_ar {k t n j : Nat} (h : zrget xqT k = some (.inr (t, n))) (ht : t = 0 ∨ t = 2 ∨ t = 3) (hj : j < n) : xv k j = true := by
  unfold xv
  rw [h]
  show ((Nat.beq t 0 || (Nat.beq t 2 || Nat.beq t 3)) && Nat.ble (j + 1) n) = true
  rw [Nat.ble_eq_true_of_le hj]
  rcases ht with rfl | rfl | rfl <;> rfl
/-- a round, purely: class, then reference -/
def yRd (B : (Nat → Nat → Int32) → Prop) (d1 m1 d2 m2 : Nat) (xs : List Int32) (cmp : Prop) (P : (Nat → Nat → Int32) → Prop) (I : Nat → Nat → Int32) : Prop := ∀ J R, xz_R R → ∃ a I1 J1 R1, xq_D xqP d1 m1 (.ref 0 :: xs.map Value.int) (I, J, R) = some (some (.int a), I1, J1, R1) ∧ ∀ I1', xz_eq I1 I1' → B I1' → ∀ J' R', xz_R R' → ∃ b I2 J2 R2, xq_D xqP d2 m2 (.ref 94 :: xs.map Value.int) (I1', J', R') = some (some (.int b), I2, J2, R2) ∧ (cmp → a = b) ∧ P I2
theorem yRd_mk {B : (Nat → Nat → Int32) → Prop} {d1 m1 d2 m2 : Nat} {xs : List Int32} {cmp : Prop} {P : (Nat → Nat → Int32) → Prop} {I : Nat → Nat → Int32} (h : ∀ J R, xz_R R → ∃ a I1, (∃ J1 R1, xq_D xqP d1 m1 (.ref 0 :: xs.map Value.int) (I, J, R) = some (some (.int a), I1, J1, R1)) ∧ ∀ I1', xz_eq I1 I1' → B I1' → ∀ J' R', xz_R R' → ∃ b I2, (∃ J2 R2, xq_D xqP d2 m2 (.ref 94 :: xs.map Value.int) (I1', J', R') = some (some (.int b), I2, J2, R2)) ∧ (cmp → a = b) ∧ P I2) : yRd B d1 m1 d2 m2 xs cmp P I := by
  intro J R hR
  obtain ⟨a, I1, ⟨J1, R1, h1⟩, h2⟩ := h J R hR
  refine ⟨a, I1, J1, R1, h1, fun I1' he hB J' R' hR' => ?_⟩
  obtain ⟨b, I2, ⟨J2, R2, h3⟩, h4⟩ := h2 I1' he hB J' R' hR'
  exact ⟨b, I2, J2, R2, h3, h4⟩
