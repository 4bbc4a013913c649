/-! ACTS of the reference, with values -/
section YU20
variable {C : List Int32} {n0 n c d : Nat} {val : (Nat → Int32) → Int32} {l a b : Int32} {I : Nat → Nat → Int32} {J : Nat → Nat → Int64} {R : Nat → Nat → Nat}
def yfA (I I' : Nat → Nat → Int32) : Prop := ∀ k j, ¬ k = 95 → ¬ k = 104 → ¬ k = 108 → ¬ k = 109 → ¬ (k = 94 ∧ (j = 13 ∨ j = 14 ∨ j = 15 ∨ j = 16 ∨ j = 27 ∨ j = 28)) → I' k j = I k j
theorem yrF_cgA {I' : Nat → Nat → Int32} {R' : Nat → Nat → Nat} (hF : yrF 95 n c n0 I R) (h1 : yfA I I') (h2 : ∀ k j, ¬ (k = 94 ∧ j = 12) → R' k j = R k j) (h3 : ∀ i, i < 8 → -1 ≤ (I' 95 i).toInt ∧ (I' 95 i).toInt ≤ 7) : yrF 95 n c n0 I' R' := by
  obtain ⟨g1, g2, g3, g4, g5, g6, g7⟩ := hF
  exact ⟨(h1 94 1 (by decide) (by decide) (by decide) (by decide) (by decide)).trans g1, (h1 94 3 (by decide) (by decide) (by decide) (by decide) (by decide)).trans g2, (h1 94 20 (by decide) (by decide) (by decide) (by decide) (by decide)).trans g3, (h1 94 21 (by decide) (by decide) (by decide) (by decide) (by decide)).trans g4, (h2 94 18 (by decide)).trans g5, fun i hi => by rw [h1 102 i (by decide) (by decide) (by decide) (by decide) (by omega)]; exact g6 i hi, h3⟩
theorem yr_actw (hn : n ≤ 8) (hc : c ≤ 8) (hn0 : n0 ≤ 40) (hF : yrF 95 n c n0 I R) (hL : yLv C (yk_t I 102 n0 40) n0 val) (hw : yq_w c (I 95)) (hN : l.toInt = 110 → ∃ N, N ≤ 9 ∧ a = Int32.ofNat N) : ∃ I' R', xq_D xqP (d + 176) 186 [.ref 94, .int l, .int a, .int b] (I, J, R) = some (some (.int (if yaV c l a b then 1 else 0)), I', J, R') ∧ (∀ i, i < 27 → I' 95 i = yAct n c (I 94 2) (I 98) (I 96) (I 97) val l a b (I 95) i) ∧ yfA I I' ∧ ∀ k j, ¬ (k = 94 ∧ j = 12) → R' k j = R k j := by
  obtain ⟨i1, i2, i3, i4, i5, i6, i7⟩ := id hF
  have no : ¬ yaV c l a b → ∃ I' R', some (some (Value.int 0), I, J, R) = some (some (Value.int (if yaV c l a b then 1 else 0)), I', J, R') ∧ (∀ i, i < 27 → I' 95 i = yAct n c (I 94 2) (I 98) (I 96) (I 97) val l a b (I 95) i) ∧ yfA I I' ∧ ∀ k j, ¬ (k = 94 ∧ j = 12) → R' k j = R k j := fun h => ⟨I, R, by rw [if_neg h], fun i _ => by rw [yAct_n h], fun _ _ _ _ _ _ _ => rfl, fun _ _ _ => rfl⟩
  rw [qX8_act_eq]
  by_cases h1 : l.toInt = 103
  · rw [if_pos h1, qX8_isGift_eq, yr_hour, xb_I1]
    by_cases g1 : 0 ≤ a.toInt ∧ a.toInt ≤ 7
    · rw [if_pos g1, if_neg (by decide)]
      have ok : yaV c l a b → ∃ I' R', some (some (Value.int 1), xq_upd I 95 a.toInt.toNat b, J, R) = some (some (Value.int (if yaV c l a b then 1 else 0)), I', J, R') ∧ (∀ i, i < 27 → I' 95 i = yAct n c (I 94 2) (I 98) (I 96) (I 97) val l a b (I 95) i) ∧ yfA I I' ∧ ∀ k j, ¬ (k = 94 ∧ j = 12) → R' k j = R k j := fun h => by
        refine ⟨_, R, by rw [if_pos h], fun i hi => ?_, fun k j q _ _ _ _ => xu_k q, fun _ _ _ => rfl⟩
        rw [yAct_g h h1]
        show _ = if i = a.toInt.toNat then b else I 95 i
        by_cases e : i = a.toInt.toNat
        · rw [if_pos e, e, xu_t]
        · rw [if_neg e, xu_j e]
      by_cases g2 : b = -1
      · rw [if_pos g2, xb_I1, if_pos (by decide), if_pos (by omega)]
        exact ok (Or.inl ⟨h1, g1, Or.inl g2⟩)
      · rw [if_neg g2, yr_man i2 hc, xb_I1]
        by_cases g3 : 0 ≤ b.toInt ∧ b.toInt < (c : Int)
        · rw [if_pos g3, if_neg (by decide), xb_I1, if_pos (by decide), if_pos (by omega)]
          exact ok (Or.inl ⟨h1, g1, Or.inr g3⟩)
        · have hno : ¬ yaV c l a b := by
            rintro (⟨-, -, z | z⟩ | ⟨z, -⟩ | z | ⟨z, -⟩)
            · exact g2 z
            · exact g3 z
            · omega
            · omega
            · exact z h1
          rw [if_neg g3, if_pos rfl, xb_I1, if_neg (by decide)]
          exact no hno
    · have hno : ¬ yaV c l a b := by
        rintro (⟨-, z, -⟩ | ⟨z, -⟩ | z | ⟨z, -⟩)
        · exact g1 z
        · omega
        · omega
        · exact z h1
      rw [if_neg g1, if_pos rfl, xb_I1, if_neg (by decide)]
      exact no hno
  · rw [if_neg h1]
    by_cases h2 : l.toInt = 105
    · rw [if_pos h2, yr_man i2 hc, xb_I1]
      by_cases g1 : 0 ≤ a.toInt ∧ a.toInt < (c : Int)
      · have hv : yaV c l a b := Or.inr (Or.inl ⟨h2, g1.1, g1.2⟩)
        have ea : a = Int32.ofNat a.toInt.toNat := by
          rw [xt_eq, xt_nat (by omega)]
          omega
        have a16 : (16 : Int32) + a = Int32.ofNat (16 + a.toInt.toNat) := by
          rw [Int32.ofNat_add, ← ea]
          rfl
        have b16 := xt_nat (n := 16 + a.toInt.toNat) (by omega)
        have c16 : (Int32.ofNat (16 + a.toInt.toNat)).toInt.toNat = 16 + a.toInt.toNat := by omega
        rw [if_pos g1, if_pos (by decide), a16, c16, b16, if_pos (by omega), if_pos (by omega), if_pos hv]
        refine ⟨_, R, rfl, fun i hi => ?_, fun k j q _ _ _ _ => xu_k q, fun _ _ _ => rfl⟩
        rw [yAct_i hv h2]
        show _ = if i = 16 + a.toInt.toNat then 1 - I 95 i else I 95 i
        by_cases e : i = 16 + a.toInt.toNat
        · rw [if_pos e, e]
          exact xu_t
        · rw [if_neg e]
          exact xu_j e
      · have hno : ¬ yaV c l a b := by
          rintro (⟨z, -⟩ | ⟨-, z⟩ | z | ⟨-, z, -⟩)
          · exact h1 z
          · exact g1 z
          · omega
          · exact z h2
        rw [if_neg g1, if_neg (by decide)]
        exact no hno
    · rw [if_neg h2]
      by_cases h3 : l.toInt = 110
      · have hv : yaV c l a b := Or.inr (Or.inr (Or.inl h3))
        obtain ⟨N, hN1, rfl⟩ := hN h3
        obtain ⟨I', R', g0, g1, g2, g3⟩ := yNra95 (d := d) (J := J) (N := N) (by omega) hn hc hn0 hF hL hw
        have bN := xt_nat (n := N) (by omega)
        have bN2 : (Int32.ofNat N).toInt.toNat = N := by omega
        rw [if_pos h3, g0, xb_V1, if_pos hv]
        refine ⟨I', R', rfl, fun i hi => ?_, fun k j q1 q2 q3 q4 q5 => g2 k j q2 q3 q4 q5 (fun z => q1 z.1), g3⟩
        rw [yAct_N hv h3, bN2]
        exact g1 i hi
      · rw [if_neg h3, yr_two i2 hc, xb_I1]
        by_cases g1 : (0 ≤ a.toInt ∧ a.toInt < (c : Int)) ∧ (0 ≤ b.toInt ∧ b.toInt < (c : Int)) ∧ ¬ a = b
        · have hv : yaV c l a b := Or.inr (Or.inr (Or.inr ⟨h1, h2, h3, g1.1, g1.2.1, g1.2.2⟩))
          obtain ⟨I', u0, u1, u2⟩ := yr_exl (d := d + 174) (x := a) (y := b) (J := J) (R := R) 8 0 I rfl
          have u0' : qX8_goExchange_h2 (d + 174) a b 0 (I, J, R) = some (none, I', J, R) := u0
          rw [if_pos g1, if_pos (by decide), qX8_goExchange_eq, u0', xb_V1, if_pos hv]
          refine ⟨I', R, rfl, fun i hi => ?_, fun k j h _ _ _ _ => u1 k j (fun z => h z.1), fun _ _ _ => rfl⟩
          rw [yAct_x hv h1 h2 h3]
          show _ = if i < 8 then ysw a b (I 95 i) else I 95 i
          by_cases h8 : i < 8
          · rw [if_pos h8]
            exact u2 i (Nat.zero_le _) h8
          · rw [if_neg h8]
            exact u1 95 i (by omega)
        · have hno : ¬ yaV c l a b := by
            rintro (⟨z, -⟩ | ⟨z, -⟩ | z | ⟨-, -, -, z⟩)
            · exact h1 z
            · exact h2 z
            · exact h3 z
            · exact g1 z
          rw [if_neg g1, if_neg (by decide)]
          exact no hno
end YU20
