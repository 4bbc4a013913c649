/-! bounds, relations -/
def yb (I : Nat → Nat → Int32) (k j : Nat) (lo hi : Int) : Prop := lo ≤ (I k j).toInt ∧ (I k j).toInt ≤ hi
def yB (I : Nat → Nat → Int32) : Prop := (∀ i, i < 80 → yb I 99 i (-128) 127) ∧ yb I 3 6 0 8 ∧ yb I 94 3 0 8 ∧ yb I 1 1 0 80 ∧ yb I 94 8 0 80 ∧ yb I 78 1 0 8 ∧ yb I 94 10 0 8
def yP1 (I : Nat → Nat → Int32) : Prop := I 94 8 = I 1 1
def yP2 (I : Nat → Nat → Int32) : Prop := ∀ i, i < 80 → I 2 i = I 99 i &&& 255
def yP3 (I : Nat → Nat → Int32) : Prop := I 94 3 = I 3 6
def yP4 (I : Nat → Nat → Int32) : Prop := ∀ r : Nat, r < 8 → (r : Int) < (I 3 6).toInt → I 4 r = I 98 r ∧ I 5 r = I 96 r ∧ I 6 r = I 97 r
def yP5 (I : Nat → Nat → Int32) : Prop := 0 ≤ (I 94 47).toInt ∧ (I 94 47).toInt ≤ (I 94 3).toInt ∧ ∀ i, i < 2 → (I 124 i).toInt ≤ (I 94 47).toInt ∧ (¬ I 63 i = 0 ↔ ¬ I 123 i = 0 ∧ I 124 i = I 94 47)
def yP (I : Nat → Nat → Int32) : Prop := yP1 I ∧ yP2 I ∧ yP3 I ∧ yP4 I ∧ yP5 I
theorem ynat {x : Int32} {h : Int} (h1 : 0 ≤ x.toInt) (h2 : x.toInt ≤ h) : ∃ n : Nat, x = Int32.ofNat n ∧ (n : Int) ≤ h := by
  refine ⟨x.toInt.toNat, ?_, by omega⟩
  have := xt_in (x := x)
  rw [xt_eq, xt_nat (by omega)]
  omega
section YA
variable {d c : Nat} {I : Nat → Nat → Int32} {J : Nat → Nat → Int64} {R : Nat → Nat → Nat} {x y : Int32}
theorem yc_has (h : I 3 6 = Int32.ofNat c) (hc : c ≤ 8) : xq_D xqP (d + 1) 21 [.ref 3, .int x] (I, J, R) = some (some (.int (if 0 ≤ x.toInt ∧ x.toInt < (c : Int) then 1 else 0)), I, J, R) := by
  have e : (I, J, R).1 3 6 = Int32.ofNat c := h
  have e0 : (0 : Int32).toInt = 0 := by decide
  rw [qX0_has_eq, e]
  simp only [xt_lt, xt_le, xt_nat (show c < 2147483648 by omega), e0]
  grind
theorem yr_man (h : I 94 3 = Int32.ofNat c) (hc : c ≤ 8) : xq_D xqP (d + 2) 239 [.ref 94, .int x] (I, J, R) = some (some (.int (if 0 ≤ x.toInt ∧ x.toInt < (c : Int) then 1 else 0)), I, J, R) := by
  have e : (I, J, R).1 94 3 = Int32.ofNat c := h
  have e0 : (0 : Int32).toInt = 0 := by decide
  have e1 : (1 : Int32).toInt = 1 := by decide
  have e2 : (Int32.ofNat c - 1).toInt = (c : Int) - 1 := by
    rw [xt_sub (by rw [xt_nat (by omega), e1]; omega) (by rw [xt_nat (by omega), e1]; omega), xt_nat (by omega), e1]
  rw [qX8_isMan_eq, e, xe_in, xb_I1, e0, e2]
  grind
theorem yc_two (h : I 3 6 = Int32.ofNat c) (hc : c ≤ 8) : xq_D xqP (d + 2) 18 [.ref 3, .int x, .int y] (I, J, R) = some (some (.int (if (0 ≤ x.toInt ∧ x.toInt < (c : Int)) ∧ (0 ≤ y.toInt ∧ y.toInt < (c : Int)) ∧ ¬ x = y then 1 else 0)), I, J, R) := by
  rw [qX0_areTwo_eq, yc_has h hc, xb_I1, yc_has h hc]
  by_cases h1 : 0 ≤ x.toInt ∧ x.toInt < (c : Int)
  · by_cases h2 : 0 ≤ y.toInt ∧ y.toInt < (c : Int)
    · simp only [if_pos h1, if_pos h2, xb_I1]
      grind
    · simp only [if_pos h1, if_neg h2, xb_I1]
      grind
  · simp only [if_neg h1]
    grind
theorem yr_two (h : I 94 3 = Int32.ofNat c) (hc : c ≤ 8) : xq_D xqP (d + 3) 189 [.ref 94, .int x, .int y] (I, J, R) = some (some (.int (if (0 ≤ x.toInt ∧ x.toInt < (c : Int)) ∧ (0 ≤ y.toInt ∧ y.toInt < (c : Int)) ∧ ¬ x = y then 1 else 0)), I, J, R) := by
  rw [qX8_areTwo_eq, yr_man h hc, xb_I1, yr_man h hc]
  by_cases h1 : 0 ≤ x.toInt ∧ x.toInt < (c : Int)
  · by_cases h2 : 0 ≤ y.toInt ∧ y.toInt < (c : Int)
    · simp only [if_pos h1, if_pos h2, xb_I1]
      grind
    · simp only [if_pos h1, if_neg h2, xb_I1]
      grind
  · simp only [if_neg h1]
    grind
end YA
