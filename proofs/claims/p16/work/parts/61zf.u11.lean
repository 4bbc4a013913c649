/-! rule(), sheet() with all that is kept -/
def ygk (k j : Nat) : Bool := decide (¬ (10 ≤ k ∧ k ≤ 14) ∧ ¬ (83 ≤ k ∧ k ≤ 87) ∧ ¬ k = 102 ∧ ¬ (k = 1 ∧ j = 1) ∧ ¬ (k = 94 ∧ (j = 8 ∨ j = 11 ∨ j = 13 ∨ j = 14 ∨ j = 15 ∨ j = 16 ∨ j = 20 ∨ j = 21)))
def ygk2 (k : Nat) : Bool := decide (¬ (10 ≤ k ∧ k ≤ 14) ∧ ¬ (83 ≤ k ∧ k ≤ 87) ∧ ¬ k = 102 ∧ ¬ k = 1 ∧ ¬ k = 94)
theorem yg_T {o a : List (Nat × Nat)} (hx : xt_x o a = true) (h : (o.all (fun q => ygk q.1 q.2) && a.all (fun q => ygk2 q.1)) = true) {I I2 : Nat → Nat → Int32} (hf : yg_fr2 I I2) : ∀ k j, yT o a k j → I2 k j = I k j := by
  intro k j hk
  have hv := xt_xv hx hk
  rw [Bool.and_eq_true, List.all_eq_true, List.all_eq_true] at h
  rcases hk with hk | ⟨n, hk, _⟩
  · obtain ⟨g1, g2, g3, g4, g5⟩ := of_decide_eq_true (h.1 _ hk)
    exact hf k j hv g1 g2 g3 g4 g5
  · obtain ⟨g1, g2, g3, g4, g5⟩ := of_decide_eq_true (h.2 _ hk)
    exact hf k j hv g1 g2 g3 (fun z => g4 z.1) (fun z => g5 z.1)
section YU11
variable {d c n nx sz k1 k2 X : Nat} {I I' I1 I2 Ia : Nat → Nat → Int32} {J : Nat → Nat → Int64} {R : Nat → Nat → Nat} {x y z w il : Int32} {S : xq_S} {src : Nat → Int32}
theorem yF_eq {I I' : Nat → Nat → Int32} (h : xz_eq I I') (hF : yF I) : yF I' := yF_xv (fun k j h1 _ => h k j h1) hF
theorem yruleF (hF : yF I) (hB : yBF I) : yRdR yBF 8 173 True yF I := by
  refine yRdR_P (yrule0 (fun _ h => h.1.1) hF.1 hB.1.1) (fun I2 h => ?_)
  obtain ⟨f, t1, t8, hl⟩ := h
  exact ⟨yP_Q (yg_T xQ9 (by decide +kernel) f) (t8.trans t1.symm) hF.1, yHb_T (yg_T xH9 (by decide +kernel) f) hF.2.1, hl hF.2.2.1, yN_T (yg_T xN9 (by decide +kernel) f) hF.2.2.2.1, yA_T (yg_T xA9 (by decide +kernel) f) hF.2.2.2.2.1, yK_T (yg_T xK9 (by decide +kernel) f) hF.2.2.2.2.2⟩
/-- sheet() -/
def yen (k v : Int32) : Int32 := if ¬ k = 0 then (if ¬ k = 1 then v else v.toInt16.toInt32) else v.toInt8.toInt32
def yst (x y z w : Int32) (r : Nat) : Int32 := if y ≤ Int32.ofNat r then 0 else ycl (yen x (z + Int32.ofNat r * w)) 0 99
theorem yst_r {r : Nat} : 0 ≤ (yst x y z w r).toInt ∧ (yst x y z w r).toInt ≤ 99 := by
  unfold yst
  split
  · decide
  · exact ycl_r (lo := 0) (hi := 99) (by decide)
theorem yc_entry {k v : Int32} : xq_D xqP (d + 1) 116 [.int k, .int v] S = some (some (.int (yen k v)), S) := by
  rw [qX7_entry_eq]
  unfold yen
  by_cases h1 : k = 0
  · rw [if_neg (fun q => q h1), if_neg (fun q => q h1)]
  · rw [if_pos h1, if_pos h1]
    by_cases h2 : k = 1
    · rw [if_neg (fun q => q h2), if_neg (fun q => q h2)]
    · rw [if_pos h2, if_pos h2]
theorem yc_shl (hc : c ≤ 8) : ∀ (m r : Nat) (I : Nat → Nat → Int32), r + m = c → I 3 6 = Int32.ofNat c → ∃ I', qX7_sheet_h46 (d + 1) x y z w (Int32.ofNat r) (I, J, R) = some (some (.int (ysum (I' 17) 8)), I', J, R) ∧ (∀ i, r ≤ i → i < c → I' 17 i = yst x y z w i) ∧ (∀ i, (i < r ∨ c ≤ i) → I' 17 i = I 17 i) ∧ ∀ k j, ¬ k = 17 → I' k j = I k j
  | 0, r, I, h, h3 => by
    have e : r = c := by omega
    subst e
    have e : (I, J, R).1 3 6 = Int32.ofNat r := h3
    refine ⟨I, ?_, fun i h1 h2 => by omega, fun _ _ => rfl, fun _ _ _ => rfl⟩
    rw [qX7_sheet_h46_eq, e, if_pos (Int32.le_refl _), yc_sum15, xb_I1]
  | m + 1, r, I, h, h3 => by
    have e : (I, J, R).1 3 6 = Int32.ofNat c := h3
    have a1 : Int32.ofNat r + (1 : Int32) = Int32.ofNat (r + 1) := (Int32.ofNat_add r 1).symm
    have b1 := xt_nat (n := r) (by omega)
    have b2 : (Int32.ofNat r).toInt.toNat = r := by omega
    have hr8 : 0 ≤ (r : Int) ∧ (r : Int) < ((8 : Nat) : Int) := by omega
    have key : qX7_sheet_h46 (d + 1) x y z w (Int32.ofNat r) (I, J, R) = qX7_sheet_h46 (d + 1) x y z w (Int32.ofNat (r + 1)) (xq_upd I 17 r (yst x y z w r), J, R) := by
      rw [qX7_sheet_h46_eq, e, if_neg (fun q => by have := (xr_le (by omega) (by omega)).mp q; omega)]
      by_cases g : y ≤ Int32.ofNat r
      · rw [if_pos g, qX7_sheet_h94_eq, b2, b1, if_pos hr8, a1]
        show qX7_sheet_h46 (d + 1) x y z w (Int32.ofNat (r + 1)) (xq_upd I 17 r 0, J, R) = _
        have : yst x y z w r = 0 := if_pos g
        rw [this]
      · rw [if_neg g, yc_entry, xb_I1, yc_between, xb_I1, qX7_sheet_h94_eq, b2, b1, if_pos hr8, a1]
        show qX7_sheet_h46 (d + 1) x y z w (Int32.ofNat (r + 1)) (xq_upd I 17 r (ycl (yen x (z + Int32.ofNat r * w)) 0 99), J, R) = _
        have : yst x y z w r = ycl (yen x (z + Int32.ofNat r * w)) 0 99 := if_neg g
        rw [this]
    obtain ⟨I', g0, g1, g2, g3⟩ := yc_shl hc m (r + 1) (xq_upd I 17 r (yst x y z w r)) (by omega) (by rw [xu_k (by decide)]; exact h3)
    refine ⟨I', key.trans g0, fun i h1 h2 => ?_, fun i h1 => ?_, fun k j h1 => ?_⟩
    · by_cases e : i = r
      · rw [g2 i (by omega), e, xu_t]
      · exact g1 i (by omega) h2
    · rw [g2 i (by omega), xu_j (by omega)]
    · rw [g3 k j h1, xq_upd_n (by omega)]
def yst3 (x y z w : Int32) (r : Nat) : Int32 := if x = 3 then 0 else yst x y z w r
theorem yst_step {r : Nat} : z + Int32.ofNat r * w + w = z + Int32.ofNat (r + 1) * w := by
  have : Int32.ofNat (r + 1) = Int32.ofNat r + 1 := Int32.ofNat_add r 1
  rw [this, Int32.add_mul, Int32.one_mul, Int32.add_assoc]
theorem yr_shl (hc : c ≤ 8) : ∀ (m r : Nat) (I : Nat → Nat → Int32), r + m = c → I 94 3 = Int32.ofNat c → ∃ I', qX8_sheet_h43 d x y w (ysum (yst3 x y z w) r) (z + Int32.ofNat r * w) (Int32.ofNat r) (I, J, R) = some (some (.int (if ¬ x = 3 then ysum (yst3 x y z w) c else -3)), I', J, R) ∧ (∀ i, r ≤ i → i < c → I' 95 (8 + i) = yst3 x y z w i) ∧ (∀ j, ¬ (8 + r ≤ j ∧ j < 8 + c) → I' 95 j = I 95 j) ∧ ∀ k j, ¬ k = 95 → I' k j = I k j
  | 0, r, I, h, h3 => by
    have e : r = c := by omega
    subst e
    have e : (I, J, R).1 94 3 = Int32.ofNat r := h3
    refine ⟨I, ?_, fun i h1 h2 => by omega, fun _ _ => rfl, fun _ _ _ => rfl⟩
    rw [qX8_sheet_h43_eq, e, if_pos (Int32.le_refl _)]
    by_cases g : x = 3
    · rw [if_neg (fun q => q g), if_neg (fun q => q g)]
    · rw [if_pos g, if_pos g]
  | m + 1, r, I, h, h3 => by
    have e : (I, J, R).1 94 3 = Int32.ofNat c := h3
    have a1 : Int32.ofNat r + (1 : Int32) = Int32.ofNat (r + 1) := (Int32.ofNat_add r 1).symm
    have a8 : (8 : Int32) + Int32.ofNat r = Int32.ofNat (8 + r) := (Int32.ofNat_add 8 r).symm
    have b1 := xt_nat (n := 8 + r) (by omega)
    have b2 : (Int32.ofNat (8 + r)).toInt.toNat = 8 + r := by omega
    have hr27 : 0 ≤ ((8 + r : Nat) : Int) ∧ ((8 + r : Nat) : Int) < ((27 : Nat) : Int) := by omega
    have k97 : ∀ w0, qX8_sheet_h97 d x y w (ysum (yst3 x y z w) r) (z + Int32.ofNat r * w) (Int32.ofNat r) w0 (Int32.ofNat (8 + r)) (I, J, R) = qX8_sheet_h43 d x y w (ysum (yst3 x y z w) r + 0) (z + Int32.ofNat (r + 1) * w) (Int32.ofNat (r + 1)) (xq_upd I 95 (8 + r) 0, J, R) := fun w0 => by
      rw [qX8_sheet_h97_eq, a8, b2, b1, if_pos hr27, if_pos hr27, a1, yst_step]
      show qX8_sheet_h43 d x y w (ysum (yst3 x y z w) r + xq_upd I 95 (8 + r) 0 95 (8 + r)) _ _ _ = _
      rw [xu_t]
    have k75 : qX8_sheet_h75 d x y w (ysum (yst3 x y z w) r) (z + Int32.ofNat r * w) (Int32.ofNat r) (yen x (z + Int32.ofNat r * w)) (I, J, R) = qX8_sheet_h43 d x y w (ysum (yst3 x y z w) (r + 1)) (z + Int32.ofNat (r + 1) * w) (Int32.ofNat (r + 1)) (xq_upd I 95 (8 + r) (yst3 x y z w r), J, R) := by
      show _ = qX8_sheet_h43 d x y w (ysum (yst3 x y z w) r + yst3 x y z w r) _ _ _
      rw [qX8_sheet_h75_eq, a8]
      by_cases g3 : x = 3
      · have : yst3 x y z w r = 0 := if_pos g3
        rw [if_pos g3, k97, this]
      · have hs : yst3 x y z w r = yst x y z w r := if_neg g3
        rw [if_neg g3]
        by_cases g : y ≤ Int32.ofNat r
        · have : yst x y z w r = 0 := if_pos g
          rw [if_neg (fun q => by rw [xt_lt] at q; rw [xt_le] at g; omega), k97, hs, this]
        · have hs2 : yst x y z w r = ycl (yen x (z + Int32.ofNat r * w)) 0 99 := if_neg g
          rw [if_pos (by rw [xt_le] at g; rw [xt_lt]; omega), b2, b1, if_pos hr27, if_pos hr27, a1, yst_step]
          show qX8_sheet_h43 d x y w (ysum (yst3 x y z w) r + xq_upd I 95 (8 + r) (ycl (yen x (z + Int32.ofNat r * w)) 0 99) 95 (8 + r)) _ _ (xq_upd I 95 (8 + r) (ycl (yen x (z + Int32.ofNat r * w)) 0 99), J, R) = _
          rw [xu_t, hs, hs2]
    have key : qX8_sheet_h43 d x y w (ysum (yst3 x y z w) r) (z + Int32.ofNat r * w) (Int32.ofNat r) (I, J, R) = qX8_sheet_h43 d x y w (ysum (yst3 x y z w) (r + 1)) (z + Int32.ofNat (r + 1) * w) (Int32.ofNat (r + 1)) (xq_upd I 95 (8 + r) (yst3 x y z w r), J, R) := by
      rw [← k75, qX8_sheet_h43_eq, e, if_neg (fun q => by have := (xr_le (by omega) (by omega)).mp q; omega)]
      unfold yen
      by_cases h1 : x = 0
      · rw [if_neg (fun q => q h1), if_neg (fun q => q h1)]
      · rw [if_pos h1, if_pos h1]
        by_cases h2 : x = 1
        · rw [if_neg (fun q => q h2), if_neg (fun q => q h2)]
        · rw [if_pos h2, if_pos h2]
    obtain ⟨I', g0, g1, g2, g3⟩ := yr_shl hc m (r + 1) (xq_upd I 95 (8 + r) (yst3 x y z w r)) (by omega) (by rw [xu_k (by decide)]; exact h3)
    refine ⟨I', key.trans g0, fun i h1 h2 => ?_, fun j h1 => ?_, fun k j h1 => ?_⟩
    · by_cases e : i = r
      · rw [g2 (8 + i) (by omega), e, xu_t]
      · exact g1 i (by omega) h2
    · rw [g2 j (by omega), xu_j (by omega)]
    · rw [g3 k j h1, xq_upd_n (by omega)]
end YU11
