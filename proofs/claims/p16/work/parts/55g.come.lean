/-! riders() of the reference: they come -/
section XRK
variable {d n0 c stop n : Nat} {J : Nat → Nat → Int64} {Rr : Nat → Nat → Nat}
theorem xe_h93 (hcn : c + n ≤ 8) : ∀ (m k : Nat) (I : Nat → Nat → Int32), k + m = n → I 94 3 = Int32.ofNat (c + k) → ∃ I', qX8_riders_h93 d (Int32.ofNat n) (Int32.ofNat k) (I, J, Rr) = some (some (.int (Int32.ofNat n)), I', J, Rr) ∧ I' 94 3 = Int32.ofNat (c + n) ∧ (∀ i, k ≤ i → i < n → I' 96 (c + i) = I 101 (3 * i) ∧ I' 97 (c + i) = I 101 (3 * i + 1) ∧ I' 98 (c + i) = I 101 (3 * i + 2) ∧ I' 95 (8 + (c + i)) = 0 ∧ I' 95 (16 + (c + i)) = 0) ∧ (∀ r, r < c + k → I' 96 r = I 96 r ∧ I' 97 r = I 97 r ∧ I' 98 r = I 98 r) ∧ (∀ j, (j < 8 + (c + k) ∨ 8 + (c + n) ≤ j) → (j < 16 + (c + k) ∨ 16 + (c + n) ≤ j) → I' 95 j = I 95 j) ∧ I' 94 24 = 0 ∧ I' 94 47 = I 94 47 + 1 ∧ (∀ k' j, ¬ k' = 95 → ¬ k' = 96 → ¬ k' = 97 → ¬ k' = 98 → ¬ (k' = 94 ∧ (j = 3 ∨ j = 24 ∨ j = 47)) → I' k' j = I k' j)
  | 0, k, I, hk, hI => by
    have e : k = n := by omega
    subst e
    refine ⟨xq_upd (xq_upd I 94 24 0) 94 47 (I 94 47 + 1), ?_, ?_, ?_, ?_, ?_, ?_, ?_, ?_⟩
    · rw [qX8_riders_h93_eq, if_pos (Int32.le_refl _)]
    · rw [xu_j (by decide), xu_j (by decide)]
      exact hI
    · intro i h1 h2
      omega
    · intro r hr
      exact ⟨by rw [xu_k (by decide), xu_k (by decide)], by rw [xu_k (by decide), xu_k (by decide)], by rw [xu_k (by decide), xu_k (by decide)]⟩
    · intro j _ _
      rw [xu_k (by decide), xu_k (by decide)]
    · rw [xu_j (by decide), xu_t]
    · rw [xu_t]
    · intro k' j h1 h2 h3 h4 h5
      grind [xq_upd]
  | m + 1, k, I, hk, hI => by
    have a1 : (3 : Int32) * Int32.ofNat k = Int32.ofNat (3 * k) := (Int32.ofNat_mul 3 k).symm
    have a2 : Int32.ofNat (3 * k) + (1 : Int32) = Int32.ofNat (3 * k + 1) := (Int32.ofNat_add (3 * k) 1).symm
    have a3 : Int32.ofNat (3 * k) + (2 : Int32) = Int32.ofNat (3 * k + 2) := (Int32.ofNat_add (3 * k) 2).symm
    have a4 : (8 : Int32) + Int32.ofNat (c + k) = Int32.ofNat (8 + (c + k)) := (Int32.ofNat_add 8 (c + k)).symm
    have a5 : (16 : Int32) + Int32.ofNat (c + k) = Int32.ofNat (16 + (c + k)) := (Int32.ofNat_add 16 (c + k)).symm
    have a6 : Int32.ofNat (c + k) + (1 : Int32) = Int32.ofNat (c + (k + 1)) := (Int32.ofNat_add (c + k) 1).symm
    have a7 : Int32.ofNat k + (1 : Int32) = Int32.ofNat (k + 1) := (Int32.ofNat_add k 1).symm
    have b1 := xt_nat (n := 3 * k) (by omega)
    have b2 := xt_nat (n := 3 * k + 1) (by omega)
    have b3 := xt_nat (n := 3 * k + 2) (by omega)
    have b4 := xt_nat (n := c + k) (by omega)
    have b5 := xt_nat (n := 8 + (c + k)) (by omega)
    have b6 := xt_nat (n := 16 + (c + k)) (by omega)
    have hI' : (I, J, Rr).1 94 3 = Int32.ofNat (c + k) := hI
    have hle : ¬ Int32.ofNat n ≤ Int32.ofNat k := fun z => by
      have := (xr_le (by omega) (by omega)).mp z
      omega
    obtain ⟨I', g0, g1, g2, g3, g4, g5, g6, g7⟩ := xe_h93 hcn m (k + 1) (xq_upd (xq_upd (xq_upd (xq_upd (xq_upd (xq_upd I 96 (c + k) (I 101 (3 * k))) 97 (c + k) (I 101 (3 * k + 1))) 98 (c + k) (I 101 (3 * k + 2))) 95 (8 + (c + k)) 0) 95 (16 + (c + k)) 0) 94 3 (Int32.ofNat (c + (k + 1)))) (by omega) xu_t
    refine ⟨I', ?_, g1, ?_, ?_, ?_, g5, ?_, ?_⟩
    · rw [qX8_riders_h93_eq, if_neg hle, hI', a1, a2, a3, a4, a5, a6, a7, b1, b2, b3, b4, b5, b6, if_pos (by omega), if_pos (by omega), if_pos (by omega), if_pos (by omega), if_pos (by omega), if_pos (by omega), if_pos (by omega), if_pos (by omega)]
      exact g0
    · intro i h1 h2
      by_cases hi : i = k
      · subst hi
        have q1 := g3 (c + i) (by omega)
        have q2 := g4 (8 + (c + i)) (by omega) (by omega)
        have q3 := g4 (16 + (c + i)) (by omega) (by omega)
        grind [xq_upd]
      · have q1 := g2 i (by omega) h2
        grind [xq_upd]
    · intro r hr
      have q1 := g3 r (by omega)
      grind [xq_upd]
    · intro j h1 h2
      have q1 := g4 j (by omega) (by omega)
      grind [xq_upd]
    · rw [g6, xu_j (by decide), xu_k (by decide), xu_k (by decide), xu_k (by decide), xu_k (by decide), xu_k (by decide)]
    · intro k' j h1 h2 h3 h4 h5
      have q1 := g7 k' j h1 h2 h3 h4 h5
      grind [xq_upd]
end XRK
