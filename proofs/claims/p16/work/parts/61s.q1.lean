/-! STATES of the class: copied, pushed, popped -/
/-- a state is copied -/
def yq_cp (I : Nat → Nat → Int32) (t f k j : Nat) : Int32 := if k = t + 1 ∧ j < 8 then I (f + 1) j else if k = t + 2 ∧ j < 8 then I (f + 2) j else if k = t ∧ 2 ≤ j ∧ j ≤ 5 then I f j else I k j
theorem yq_cpn {I : Nat → Nat → Int32} {t f k j : Nat} (h : ¬ (t ≤ k ∧ k ≤ t + 2)) : yq_cp I t f k j = I k j := by
  unfold yq_cp
  rw [if_neg (by omega), if_neg (by omega), if_neg (by omega)]
theorem yq_cpe {I : Nat → Nat → Int32} {t f : Nat} (h : f + 2 < t ∨ t + 2 < f) : xq_upd (xq_upd (xq_upd (xq_upd (xq_cpy (xq_cpy I (f + 1) 0 (t + 1) 0 8) (f + 2) 0 (t + 2) 0 8) t 2 ((xq_cpy (xq_cpy I (f + 1) 0 (t + 1) 0 8) (f + 2) 0 (t + 2) 0 8) f 2)) t 3 ((xq_cpy (xq_cpy I (f + 1) 0 (t + 1) 0 8) (f + 2) 0 (t + 2) 0 8) f 3)) t 4 ((xq_cpy (xq_cpy I (f + 1) 0 (t + 1) 0 8) (f + 2) 0 (t + 2) 0 8) f 4)) t 5 ((xq_cpy (xq_cpy I (f + 1) 0 (t + 1) 0 8) (f + 2) 0 (t + 2) 0 8) f 5) = yq_cp I t f := by
  funext k j
  have c0 : ∀ j, xq_cpy (xq_cpy I (f + 1) 0 (t + 1) 0 8) (f + 2) 0 (t + 2) 0 8 f j = I f j := fun j => by
    unfold xq_cpy
    rw [if_neg (by omega), if_neg (by omega)]
  rw [c0, c0, c0, c0]
  unfold yq_cp
  by_cases h1 : k = t + 1 ∧ j < 8
  · rw [if_pos h1, xq_upd_n (by omega), xq_upd_n (by omega), xq_upd_n (by omega), xq_upd_n (by omega)]
    unfold xq_cpy
    rw [if_neg (by omega), if_pos (by omega)]
    rw [show 0 + (j - 0) = j by omega]
  rw [if_neg h1]
  by_cases h2 : k = t + 2 ∧ j < 8
  · rw [if_pos h2, xq_upd_n (by omega), xq_upd_n (by omega), xq_upd_n (by omega), xq_upd_n (by omega)]
    unfold xq_cpy
    rw [if_pos (by omega), if_neg (by omega)]
    rw [show 0 + (j - 0) = j by omega]
  rw [if_neg h2]
  by_cases h3 : k = t ∧ 2 ≤ j ∧ j ≤ 5
  · rw [if_pos h3]
    obtain ⟨rfl, h4, h5⟩ := h3
    rcases (show j = 2 ∨ j = 3 ∨ j = 4 ∨ j = 5 by omega) with rfl | rfl | rfl | rfl
    · rw [xu_j (by decide), xu_j (by decide), xu_j (by decide), xu_t]
    · rw [xu_j (by decide), xu_j (by decide), xu_t]
    · rw [xu_j (by decide), xu_t]
    · rw [xu_t]
  rw [if_neg h3, xq_upd_n (by omega), xq_upd_n (by omega), xq_upd_n (by omega), xq_upd_n (by omega)]
  unfold xq_cpy
  rw [if_neg (by omega), if_neg (by omega)]
section YQA
variable {d nx sz : Nat} {I : Nat → Nat → Int32} {J : Nat → Nat → Int64} {R : Nat → Nat → Nat}
theorem yq_c18_15 : xq_D xqP (d + 1) 85 [.ref 18, .ref 15] (I, J, R) = some (none, yq_cp I 18 15, J, R) := by
  rw [qX5_copy_18_15_eq, ← yq_cpe (t := 18) (f := 15) (by omega)]
theorem yq_c21_15 : xq_D xqP (d + 1) 85 [.ref 21, .ref 15] (I, J, R) = some (none, yq_cp I 21 15, J, R) := by
  rw [qX5_copy_21_15_eq, ← yq_cpe (t := 21) (f := 15) (by omega)]
theorem yq_c88_15 : xq_D xqP (d + 1) 85 [.ref 88, .ref 15] (I, J, R) = some (none, yq_cp I 88 15, J, R) := by
  rw [qX5_copy_88_15_eq, ← yq_cpe (t := 88) (f := 15) (by omega)]
theorem yq_c91_15 : xq_D xqP (d + 1) 85 [.ref 91, .ref 15] (I, J, R) = some (none, yq_cp I 91 15, J, R) := by
  rw [qX5_copy_91_15_eq, ← yq_cpe (t := 91) (f := 15) (by omega)]
theorem yq_c15_88 : xq_D xqP (d + 1) 85 [.ref 15, .ref 88] (I, J, R) = some (none, yq_cp I 15 88, J, R) := by
  rw [qX5_copy_15_88_eq, ← yq_cpe (t := 15) (f := 88) (by omega)]
theorem yq_c15_91 : xq_D xqP (d + 1) 85 [.ref 15, .ref 91] (I, J, R) = some (none, yq_cp I 15 91, J, R) := by
  rw [qX5_copy_15_91_eq, ← yq_cpe (t := 15) (f := 91) (by omega)]
theorem yq_c26_15 : xq_D xqP (d + 1) 85 [.ref 26, .ref 15] (I, J, R) = some (none, yq_cp I 26 15, J, R) := by
  rw [qX5_copy_26_15_eq, ← yq_cpe (t := 26) (f := 15) (by omega)]
theorem yq_c29_15 : xq_D xqP (d + 1) 85 [.ref 29, .ref 15] (I, J, R) = some (none, yq_cp I 29 15, J, R) := by
  rw [qX5_copy_29_15_eq, ← yq_cpe (t := 29) (f := 15) (by omega)]
theorem yq_c32_15 : xq_D xqP (d + 1) 85 [.ref 32, .ref 15] (I, J, R) = some (none, yq_cp I 32 15, J, R) := by
  rw [qX5_copy_32_15_eq, ← yq_cpe (t := 32) (f := 15) (by omega)]
theorem yq_c35_15 : xq_D xqP (d + 1) 85 [.ref 35, .ref 15] (I, J, R) = some (none, yq_cp I 35 15, J, R) := by
  rw [qX5_copy_35_15_eq, ← yq_cpe (t := 35) (f := 15) (by omega)]
theorem yq_c38_15 : xq_D xqP (d + 1) 85 [.ref 38, .ref 15] (I, J, R) = some (none, yq_cp I 38 15, J, R) := by
  rw [qX5_copy_38_15_eq, ← yq_cpe (t := 38) (f := 15) (by omega)]
theorem yq_c41_15 : xq_D xqP (d + 1) 85 [.ref 41, .ref 15] (I, J, R) = some (none, yq_cp I 41 15, J, R) := by
  rw [qX5_copy_41_15_eq, ← yq_cpe (t := 41) (f := 15) (by omega)]
theorem yq_c44_15 : xq_D xqP (d + 1) 85 [.ref 44, .ref 15] (I, J, R) = some (none, yq_cp I 44 15, J, R) := by
  rw [qX5_copy_44_15_eq, ← yq_cpe (t := 44) (f := 15) (by omega)]
theorem yq_c47_15 : xq_D xqP (d + 1) 85 [.ref 47, .ref 15] (I, J, R) = some (none, yq_cp I 47 15, J, R) := by
  rw [qX5_copy_47_15_eq, ← yq_cpe (t := 47) (f := 15) (by omega)]
theorem yq_c50_15 : xq_D xqP (d + 1) 85 [.ref 50, .ref 15] (I, J, R) = some (none, yq_cp I 50 15, J, R) := by
  rw [qX5_copy_50_15_eq, ← yq_cpe (t := 50) (f := 15) (by omega)]
theorem yq_c53_15 : xq_D xqP (d + 1) 85 [.ref 53, .ref 15] (I, J, R) = some (none, yq_cp I 53 15, J, R) := by
  rw [qX5_copy_53_15_eq, ← yq_cpe (t := 53) (f := 15) (by omega)]
theorem yq_c56_15 : xq_D xqP (d + 1) 85 [.ref 56, .ref 15] (I, J, R) = some (none, yq_cp I 56 15, J, R) := by
  rw [qX5_copy_56_15_eq, ← yq_cpe (t := 56) (f := 15) (by omega)]
theorem yq_c59_15 : xq_D xqP (d + 1) 85 [.ref 59, .ref 15] (I, J, R) = some (none, yq_cp I 59 15, J, R) := by
  rw [qX5_copy_59_15_eq, ← yq_cpe (t := 59) (f := 15) (by omega)]
theorem yq_c15_26 : xq_D xqP (d + 1) 85 [.ref 15, .ref 26] (I, J, R) = some (none, yq_cp I 15 26, J, R) := by
  rw [qX5_copy_15_26_eq, ← yq_cpe (t := 15) (f := 26) (by omega)]
theorem yq_c15_29 : xq_D xqP (d + 1) 85 [.ref 15, .ref 29] (I, J, R) = some (none, yq_cp I 15 29, J, R) := by
  rw [qX5_copy_15_29_eq, ← yq_cpe (t := 15) (f := 29) (by omega)]
theorem yq_c15_32 : xq_D xqP (d + 1) 85 [.ref 15, .ref 32] (I, J, R) = some (none, yq_cp I 15 32, J, R) := by
  rw [qX5_copy_15_32_eq, ← yq_cpe (t := 15) (f := 32) (by omega)]
theorem yq_c15_35 : xq_D xqP (d + 1) 85 [.ref 15, .ref 35] (I, J, R) = some (none, yq_cp I 15 35, J, R) := by
  rw [qX5_copy_15_35_eq, ← yq_cpe (t := 15) (f := 35) (by omega)]
theorem yq_c15_38 : xq_D xqP (d + 1) 85 [.ref 15, .ref 38] (I, J, R) = some (none, yq_cp I 15 38, J, R) := by
  rw [qX5_copy_15_38_eq, ← yq_cpe (t := 15) (f := 38) (by omega)]
theorem yq_c15_41 : xq_D xqP (d + 1) 85 [.ref 15, .ref 41] (I, J, R) = some (none, yq_cp I 15 41, J, R) := by
  rw [qX5_copy_15_41_eq, ← yq_cpe (t := 15) (f := 41) (by omega)]
theorem yq_c15_44 : xq_D xqP (d + 1) 85 [.ref 15, .ref 44] (I, J, R) = some (none, yq_cp I 15 44, J, R) := by
  rw [qX5_copy_15_44_eq, ← yq_cpe (t := 15) (f := 44) (by omega)]
theorem yq_c15_47 : xq_D xqP (d + 1) 85 [.ref 15, .ref 47] (I, J, R) = some (none, yq_cp I 15 47, J, R) := by
  rw [qX5_copy_15_47_eq, ← yq_cpe (t := 15) (f := 47) (by omega)]
theorem yq_c15_50 : xq_D xqP (d + 1) 85 [.ref 15, .ref 50] (I, J, R) = some (none, yq_cp I 15 50, J, R) := by
  rw [qX5_copy_15_50_eq, ← yq_cpe (t := 15) (f := 50) (by omega)]
theorem yq_c15_53 : xq_D xqP (d + 1) 85 [.ref 15, .ref 53] (I, J, R) = some (none, yq_cp I 15 53, J, R) := by
  rw [qX5_copy_15_53_eq, ← yq_cpe (t := 15) (f := 53) (by omega)]
theorem yq_c15_56 : xq_D xqP (d + 1) 85 [.ref 15, .ref 56] (I, J, R) = some (none, yq_cp I 15 56, J, R) := by
  rw [qX5_copy_15_56_eq, ← yq_cpe (t := 15) (f := 56) (by omega)]
theorem yq_c15_59 : xq_D xqP (d + 1) 85 [.ref 15, .ref 59] (I, J, R) = some (none, yq_cp I 15 59, J, R) := by
  rw [qX5_copy_15_59_eq, ← yq_cpe (t := 15) (f := 59) (by omega)]
theorem yq_c26_18 : xq_D xqP (d + 1) 85 [.ref 26, .ref 18] (I, J, R) = some (none, yq_cp I 26 18, J, R) := by
  rw [qX5_copy_26_18_eq, ← yq_cpe (t := 26) (f := 18) (by omega)]
theorem yq_c29_18 : xq_D xqP (d + 1) 85 [.ref 29, .ref 18] (I, J, R) = some (none, yq_cp I 29 18, J, R) := by
  rw [qX5_copy_29_18_eq, ← yq_cpe (t := 29) (f := 18) (by omega)]
theorem yq_c32_18 : xq_D xqP (d + 1) 85 [.ref 32, .ref 18] (I, J, R) = some (none, yq_cp I 32 18, J, R) := by
  rw [qX5_copy_32_18_eq, ← yq_cpe (t := 32) (f := 18) (by omega)]
theorem yq_c35_18 : xq_D xqP (d + 1) 85 [.ref 35, .ref 18] (I, J, R) = some (none, yq_cp I 35 18, J, R) := by
  rw [qX5_copy_35_18_eq, ← yq_cpe (t := 35) (f := 18) (by omega)]
theorem yq_c38_18 : xq_D xqP (d + 1) 85 [.ref 38, .ref 18] (I, J, R) = some (none, yq_cp I 38 18, J, R) := by
  rw [qX5_copy_38_18_eq, ← yq_cpe (t := 38) (f := 18) (by omega)]
theorem yq_c41_18 : xq_D xqP (d + 1) 85 [.ref 41, .ref 18] (I, J, R) = some (none, yq_cp I 41 18, J, R) := by
  rw [qX5_copy_41_18_eq, ← yq_cpe (t := 41) (f := 18) (by omega)]
theorem yq_c44_18 : xq_D xqP (d + 1) 85 [.ref 44, .ref 18] (I, J, R) = some (none, yq_cp I 44 18, J, R) := by
  rw [qX5_copy_44_18_eq, ← yq_cpe (t := 44) (f := 18) (by omega)]
theorem yq_c47_18 : xq_D xqP (d + 1) 85 [.ref 47, .ref 18] (I, J, R) = some (none, yq_cp I 47 18, J, R) := by
  rw [qX5_copy_47_18_eq, ← yq_cpe (t := 47) (f := 18) (by omega)]
theorem yq_c50_18 : xq_D xqP (d + 1) 85 [.ref 50, .ref 18] (I, J, R) = some (none, yq_cp I 50 18, J, R) := by
  rw [qX5_copy_50_18_eq, ← yq_cpe (t := 50) (f := 18) (by omega)]
theorem yq_c53_18 : xq_D xqP (d + 1) 85 [.ref 53, .ref 18] (I, J, R) = some (none, yq_cp I 53 18, J, R) := by
  rw [qX5_copy_53_18_eq, ← yq_cpe (t := 53) (f := 18) (by omega)]
theorem yq_c56_18 : xq_D xqP (d + 1) 85 [.ref 56, .ref 18] (I, J, R) = some (none, yq_cp I 56 18, J, R) := by
  rw [qX5_copy_56_18_eq, ← yq_cpe (t := 56) (f := 18) (by omega)]
theorem yq_c59_18 : xq_D xqP (d + 1) 85 [.ref 59, .ref 18] (I, J, R) = some (none, yq_cp I 59 18, J, R) := by
  rw [qX5_copy_59_18_eq, ← yq_cpe (t := 59) (f := 18) (by omega)]
theorem yq_nx : ∀ n : Nat, n < 12 → ((Int32.ofNat n + (1 : Int32)) - (Int32.ofNat n + (1 : Int32)) / (12 : Int32) * (12 : Int32)) = Int32.ofNat ((n + 1) % 12) := by decide +kernel
theorem yq_sz : ∀ n : Nat, n < 13 → (if (12 : Int32) < (Int32.ofNat n + (1 : Int32)) then (12 : Int32) else (Int32.ofNat n + (1 : Int32))) = Int32.ofNat (if n = 12 then 12 else n + 1) := by decide +kernel
theorem yq_pv : ∀ n : Nat, n < 12 → (((Int32.ofNat n + (12 : Int32)) - (1 : Int32)) - ((Int32.ofNat n + (12 : Int32)) - (1 : Int32)) / (12 : Int32) * (12 : Int32)) = Int32.ofNat ((n + 11) % 12) := by decide +kernel
/-- a state is pushed -/
theorem yq_push15 (hn : I 24 1 = Int32.ofNat nx) (hnx : nx < 12) (hs : I 24 2 = Int32.ofNat sz) (hsz : sz ≤ 12) : ∃ I', xq_D xqP (d + 2) 42 [.ref 24, .ref 15] (I, J, R) = some (none, I', J, R) ∧ I' 24 1 = Int32.ofNat ((nx + 1) % 12) ∧ I' 24 2 = Int32.ofNat (if sz = 12 then 12 else sz + 1) ∧ ∀ k j, ¬ k = 24 → I' k j = yq_cp I (26 + 3 * nx) 15 k j := by
  have b1 := xt_nat (n := nx) (by omega)
  have b2 : (Int32.ofNat nx).toInt.toNat = nx := by omega
  have hn' : (I, J, R).1 24 1 = Int32.ofNat nx := hn
  have e1 := yq_nx nx hnx
  have e2 := yq_sz sz (by omega)
  have key : ∀ t, t = 26 + 3 * nx → ∃ I', some ((none : Option Value), (xq_upd (xq_upd (yq_cp I t 15) 24 1 (((yq_cp I t 15 24 1) + (1 : Int32)) - ((yq_cp I t 15 24 1) + (1 : Int32)) / (12 : Int32) * (12 : Int32))) 24 2 (if (12 : Int32) < ((yq_cp I t 15 24 2) + (1 : Int32)) then (12 : Int32) else ((yq_cp I t 15 24 2) + (1 : Int32))), J, R)) = some (none, I', J, R) ∧ I' 24 1 = Int32.ofNat ((nx + 1) % 12) ∧ I' 24 2 = Int32.ofNat (if sz = 12 then 12 else sz + 1) ∧ ∀ k j, ¬ k = 24 → I' k j = yq_cp I (26 + 3 * nx) 15 k j := by
    intro t ht
    subst ht
    rw [yq_cpn (by omega), yq_cpn (by omega), hn, hs, e1, e2]
    exact ⟨_, rfl, by rw [xu_j (by decide), xu_t], xu_t, fun k j hk => by rw [xu_k hk, xu_k hk]⟩
  rw [qX2_push_15_eq, hn', b2, b1, if_pos (by omega)]
  by_cases h0 : nx = 0
  · rw [if_pos h0, yq_c26_15, xb_V1]
    exact key 26 (by omega)
  rw [if_neg h0]
  by_cases h1 : nx = 1
  · rw [if_pos h1, yq_c29_15, xb_V1]
    exact key 29 (by omega)
  rw [if_neg h1]
  by_cases h2 : nx = 2
  · rw [if_pos h2, yq_c32_15, xb_V1]
    exact key 32 (by omega)
  rw [if_neg h2]
  by_cases h3 : nx = 3
  · rw [if_pos h3, yq_c35_15, xb_V1]
    exact key 35 (by omega)
  rw [if_neg h3]
  by_cases h4 : nx = 4
  · rw [if_pos h4, yq_c38_15, xb_V1]
    exact key 38 (by omega)
  rw [if_neg h4]
  by_cases h5 : nx = 5
  · rw [if_pos h5, yq_c41_15, xb_V1]
    exact key 41 (by omega)
  rw [if_neg h5]
  by_cases h6 : nx = 6
  · rw [if_pos h6, yq_c44_15, xb_V1]
    exact key 44 (by omega)
  rw [if_neg h6]
  by_cases h7 : nx = 7
  · rw [if_pos h7, yq_c47_15, xb_V1]
    exact key 47 (by omega)
  rw [if_neg h7]
  by_cases h8 : nx = 8
  · rw [if_pos h8, yq_c50_15, xb_V1]
    exact key 50 (by omega)
  rw [if_neg h8]
  by_cases h9 : nx = 9
  · rw [if_pos h9, yq_c53_15, xb_V1]
    exact key 53 (by omega)
  rw [if_neg h9]
  by_cases h10 : nx = 10
  · rw [if_pos h10, yq_c56_15, xb_V1]
    exact key 56 (by omega)
  rw [if_neg h10]
  by_cases h11 : nx = 11
  · rw [if_pos h11, yq_c59_15, xb_V1]
    exact key 59 (by omega)
  rw [if_neg h11]
  omega
/-- a state is pushed -/
theorem yq_push18 (hn : I 24 1 = Int32.ofNat nx) (hnx : nx < 12) (hs : I 24 2 = Int32.ofNat sz) (hsz : sz ≤ 12) : ∃ I', xq_D xqP (d + 2) 42 [.ref 24, .ref 18] (I, J, R) = some (none, I', J, R) ∧ I' 24 1 = Int32.ofNat ((nx + 1) % 12) ∧ I' 24 2 = Int32.ofNat (if sz = 12 then 12 else sz + 1) ∧ ∀ k j, ¬ k = 24 → I' k j = yq_cp I (26 + 3 * nx) 18 k j := by
  have b1 := xt_nat (n := nx) (by omega)
  have b2 : (Int32.ofNat nx).toInt.toNat = nx := by omega
  have hn' : (I, J, R).1 24 1 = Int32.ofNat nx := hn
  have e1 := yq_nx nx hnx
  have e2 := yq_sz sz (by omega)
  have key : ∀ t, t = 26 + 3 * nx → ∃ I', some ((none : Option Value), (xq_upd (xq_upd (yq_cp I t 18) 24 1 (((yq_cp I t 18 24 1) + (1 : Int32)) - ((yq_cp I t 18 24 1) + (1 : Int32)) / (12 : Int32) * (12 : Int32))) 24 2 (if (12 : Int32) < ((yq_cp I t 18 24 2) + (1 : Int32)) then (12 : Int32) else ((yq_cp I t 18 24 2) + (1 : Int32))), J, R)) = some (none, I', J, R) ∧ I' 24 1 = Int32.ofNat ((nx + 1) % 12) ∧ I' 24 2 = Int32.ofNat (if sz = 12 then 12 else sz + 1) ∧ ∀ k j, ¬ k = 24 → I' k j = yq_cp I (26 + 3 * nx) 18 k j := by
    intro t ht
    subst ht
    rw [yq_cpn (by omega), yq_cpn (by omega), hn, hs, e1, e2]
    exact ⟨_, rfl, by rw [xu_j (by decide), xu_t], xu_t, fun k j hk => by rw [xu_k hk, xu_k hk]⟩
  rw [qX2_push_18_eq, hn', b2, b1, if_pos (by omega)]
  by_cases h0 : nx = 0
  · rw [if_pos h0, yq_c26_18, xb_V1]
    exact key 26 (by omega)
  rw [if_neg h0]
  by_cases h1 : nx = 1
  · rw [if_pos h1, yq_c29_18, xb_V1]
    exact key 29 (by omega)
  rw [if_neg h1]
  by_cases h2 : nx = 2
  · rw [if_pos h2, yq_c32_18, xb_V1]
    exact key 32 (by omega)
  rw [if_neg h2]
  by_cases h3 : nx = 3
  · rw [if_pos h3, yq_c35_18, xb_V1]
    exact key 35 (by omega)
  rw [if_neg h3]
  by_cases h4 : nx = 4
  · rw [if_pos h4, yq_c38_18, xb_V1]
    exact key 38 (by omega)
  rw [if_neg h4]
  by_cases h5 : nx = 5
  · rw [if_pos h5, yq_c41_18, xb_V1]
    exact key 41 (by omega)
  rw [if_neg h5]
  by_cases h6 : nx = 6
  · rw [if_pos h6, yq_c44_18, xb_V1]
    exact key 44 (by omega)
  rw [if_neg h6]
  by_cases h7 : nx = 7
  · rw [if_pos h7, yq_c47_18, xb_V1]
    exact key 47 (by omega)
  rw [if_neg h7]
  by_cases h8 : nx = 8
  · rw [if_pos h8, yq_c50_18, xb_V1]
    exact key 50 (by omega)
  rw [if_neg h8]
  by_cases h9 : nx = 9
  · rw [if_pos h9, yq_c53_18, xb_V1]
    exact key 53 (by omega)
  rw [if_neg h9]
  by_cases h10 : nx = 10
  · rw [if_pos h10, yq_c56_18, xb_V1]
    exact key 56 (by omega)
  rw [if_neg h10]
  by_cases h11 : nx = 11
  · rw [if_pos h11, yq_c59_18, xb_V1]
    exact key 59 (by omega)
  rw [if_neg h11]
  omega
/-- a state is popped -/
theorem yq_pop (hn : I 24 1 = Int32.ofNat nx) (hnx : nx < 12) (hs : I 24 2 = Int32.ofNat sz) (hsz : sz ≤ 12) : (sz = 0 → xq_D xqP (d + 2) 41 [.ref 24, .ref 15] (I, J, R) = some (some (.int (-1)), I, J, R)) ∧ (0 < sz → ∃ I', xq_D xqP (d + 2) 41 [.ref 24, .ref 15] (I, J, R) = some (some (.int (Int32.ofNat (sz - 1))), I', J, R) ∧ I' 24 1 = Int32.ofNat ((nx + 11) % 12) ∧ I' 24 2 = Int32.ofNat (sz - 1) ∧ ∀ k j, ¬ k = 24 → I' k j = yq_cp I 15 (26 + 3 * ((nx + 11) % 12)) k j) := by
  have hs' : (I, J, R).1 24 2 = Int32.ofNat sz := hs
  have hn' : (I, J, R).1 24 1 = Int32.ofNat nx := hn
  constructor
  · intro hz
    subst hz
    rw [qX2_pop_eq, hs', if_neg (fun z => z rfl)]
  · intro hz
    have hne : ¬ Int32.ofNat sz = 0 := fun z => by
      have := congrArg Int32.toInt z
      rw [xt_nat (by omega)] at this
      have e0 : (0 : Int32).toInt = 0 := by decide
      omega
    have e1 := yq_pv nx hnx
    generalize hp : (nx + 11) % 12 = p at e1
    have hp12 : p < 12 := by omega
    have b1 := xt_nat (n := p) (by omega)
    have b2 : (Int32.ofNat p).toInt.toNat = p := by omega
    have e2 : Int32.ofNat sz - 1 = Int32.ofNat (sz - 1) := yd_sub1 hz
    have key : ∀ f, f = 26 + 3 * p → ∃ I', some (some (Value.int ((yq_cp (xq_upd (xq_upd I 24 1 (Int32.ofNat p)) 24 2 (Int32.ofNat (sz - 1))) 15 f) 24 2)), (yq_cp (xq_upd (xq_upd I 24 1 (Int32.ofNat p)) 24 2 (Int32.ofNat (sz - 1))) 15 f, J, R)) = some (some (.int (Int32.ofNat (sz - 1))), I', J, R) ∧ I' 24 1 = Int32.ofNat p ∧ I' 24 2 = Int32.ofNat (sz - 1) ∧ ∀ k j, ¬ k = 24 → I' k j = yq_cp I 15 (26 + 3 * p) k j := by
      intro f hf
      subst hf
      have g1 : yq_cp (xq_upd (xq_upd I 24 1 (Int32.ofNat p)) 24 2 (Int32.ofNat (sz - 1))) 15 (26 + 3 * p) 24 2 = Int32.ofNat (sz - 1) := by
        rw [yq_cpn (by omega), xu_t]
      refine ⟨_, by rw [g1], ?_, g1, fun k j hk => ?_⟩
      · rw [yq_cpn (by omega), xu_j (by decide), xu_t]
      · unfold yq_cp
        have u : ∀ a b, ¬ a = 24 → xq_upd (xq_upd I 24 1 (Int32.ofNat p)) 24 2 (Int32.ofNat (sz - 1)) a b = I a b := fun a b h => by rw [xu_k h, xu_k h]
        rw [u _ _ (by omega), u _ _ (by omega), u _ _ (by omega), u _ _ hk]
    rw [qX2_pop_eq, hs', hn', if_pos hne, e1, e2, b2, b1, if_pos (by omega)]
    by_cases h0 : p = 0
    · rw [if_pos h0, yq_c15_26, xb_V1]
      exact key 26 (by omega)
    rw [if_neg h0]
    by_cases h1 : p = 1
    · rw [if_pos h1, yq_c15_29, xb_V1]
      exact key 29 (by omega)
    rw [if_neg h1]
    by_cases h2 : p = 2
    · rw [if_pos h2, yq_c15_32, xb_V1]
      exact key 32 (by omega)
    rw [if_neg h2]
    by_cases h3 : p = 3
    · rw [if_pos h3, yq_c15_35, xb_V1]
      exact key 35 (by omega)
    rw [if_neg h3]
    by_cases h4 : p = 4
    · rw [if_pos h4, yq_c15_38, xb_V1]
      exact key 38 (by omega)
    rw [if_neg h4]
    by_cases h5 : p = 5
    · rw [if_pos h5, yq_c15_41, xb_V1]
      exact key 41 (by omega)
    rw [if_neg h5]
    by_cases h6 : p = 6
    · rw [if_pos h6, yq_c15_44, xb_V1]
      exact key 44 (by omega)
    rw [if_neg h6]
    by_cases h7 : p = 7
    · rw [if_pos h7, yq_c15_47, xb_V1]
      exact key 47 (by omega)
    rw [if_neg h7]
    by_cases h8 : p = 8
    · rw [if_pos h8, yq_c15_50, xb_V1]
      exact key 50 (by omega)
    rw [if_neg h8]
    by_cases h9 : p = 9
    · rw [if_pos h9, yq_c15_53, xb_V1]
      exact key 53 (by omega)
    rw [if_neg h9]
    by_cases h10 : p = 10
    · rw [if_pos h10, yq_c15_56, xb_V1]
      exact key 56 (by omega)
    rw [if_neg h10]
    by_cases h11 : p = 11
    · rw [if_pos h11, yq_c15_59, xb_V1]
      exact key 59 (by omega)
    rw [if_neg h11]
    omega
end YQA
