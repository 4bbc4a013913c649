/-! ACTS of the class, with values -/
section YU19
variable {C : List Int32} {T : Nat → Int32} {n0 n c q d : Nat} {val : (Nat → Int32) → Int32} {ca mo wi s s' : Nat → Int32} {be l a b o1 o2 : Int32} {I : Nat → Nat → Int32} {J : Nat → Nat → Int64} {R : Nat → Nat → Nat}
def yfC (I I' : Nat → Nat → Int32) : Prop := ∀ k j, ¬ k = 7 → ¬ k = 8 → ¬ k = 9 → ¬ k = 13 → ¬ k = 15 → ¬ k = 16 → ¬ k = 17 → ¬ (k = 3 ∧ (j = 10 ∨ j = 11)) → I' k j = I k j
theorem yc_actw (hn : n ≤ 8) (hc : c ≤ 8) (hq : q ≤ 40) (hR : R 3 9 = 10) (i1 : I 3 7 = Int32.ofNat n) (i2 : I 3 6 = Int32.ofNat c) (i4 : I 10 4 = Int32.ofNat q) (hL : yLv (yv_c (I 11) q) T n0 val) (hr : ∀ r, r < c → I 4 r = ca r ∧ I 5 r = mo r ∧ I 6 r = wi r) (hw : yq_w c (yq_s I 15)) (hN : l.toInt = 110 → ∃ N, N ≤ 9 ∧ o1 - 48 = Int32.ofNat N) : ∃ I', xq_D xqP (d + 7) 98 [.ref 0, .int l, .int o1, .int o2] (I, J, R) = some (some (.int (if yaV c l (o1 - 48) (if o2 = 45 then -1 else o2 - 48) then 1 else 0)), I', J, R) ∧ (∀ i, i < 27 → yq_s I' 15 i = yAct n c (I 3 8) ca mo wi val l (o1 - 48) (if o2 = 45 then -1 else o2 - 48) (yq_s I 15) i) ∧ yfC I I' := by
  have key : ∀ a b : Int32, (l.toInt = 110 → ∃ N, N ≤ 9 ∧ a = Int32.ofNat N) → ∃ I', qX7_act_h20 (d + 6) l a b (I, J, R) = some (some (.int (if yaV c l a b then 1 else 0)), I', J, R) ∧ (∀ i, i < 27 → yq_s I' 15 i = yAct n c (I 3 8) ca mo wi val l a b (yq_s I 15) i) ∧ yfC I I' := by
    intro a b hN
    have no : ¬ yaV c l a b → ∃ I', some (some (Value.int (if yaV c l a b then 1 else 0)), I, J, R) = some (some (Value.int (if yaV c l a b then 1 else 0)), I', J, R) ∧ (∀ i, i < 27 → yq_s I' 15 i = yAct n c (I 3 8) ca mo wi val l a b (yq_s I 15) i) ∧ yfC I I' := fun h => ⟨I, rfl, fun i _ => by rw [yAct_n h], fun _ _ _ _ _ _ _ _ _ _ => rfl⟩
    rw [qX7_act_h20_eq]
    by_cases h1 : l.toInt = 103
    · rw [if_pos h1, qX7_actGive_eq, yc_hour, xb_I1]
      have ok : yaV c l a b → 0 ≤ a.toInt ∧ a.toInt ≤ 7 → ∃ I', some (some (Value.int 1), xq_upd I 16 a.toInt.toNat b, J, R) = some (some (Value.int (if yaV c l a b then 1 else 0)), I', J, R) ∧ (∀ i, i < 27 → yq_s I' 15 i = yAct n c (I 3 8) ca mo wi val l a b (yq_s I 15) i) ∧ yfC I I' := fun h g => by
        refine ⟨_, by rw [if_pos h], fun i hi => ?_, fun k j _ _ _ _ _ h _ _ => xu_k h⟩
        rw [yAct_g h h1]
        show _ = if i = a.toInt.toNat then b else yq_s I 15 i
        by_cases h8 : i < 8
        · rw [yq_s_1 h8, yq_s_1 h8]
          by_cases e : i = a.toInt.toNat
          · rw [if_pos e, e, xu_t]
          · rw [if_neg e, xu_j e]
        · rw [if_neg (by omega)]
          exact yq_s_hi (fun j _ => xu_k (by decide)) (fun j _ _ => xu_k (by decide)) (by omega) hi
      by_cases g1 : 0 ≤ a.toInt ∧ a.toInt ≤ 7
      · rw [if_pos g1, if_neg (by decide), qX0_isSomebodyOrNobody_eq]
        by_cases g2 : b = -1
        · rw [if_pos g2, xb_I1, if_pos (by decide), if_pos (by omega), xb_I1, if_pos (Or.inr rfl)]
          exact ok (Or.inl ⟨h1, g1, Or.inl g2⟩) g1
        · rw [if_neg g2, yc_has i2 hc, xb_I1]
          by_cases g3 : 0 ≤ b.toInt ∧ b.toInt < (c : Int)
          · rw [if_pos g3, if_neg (by decide), xb_I1, if_pos (by decide), if_pos (by omega), xb_I1, if_pos (Or.inr rfl)]
            exact ok (Or.inl ⟨h1, g1, Or.inr g3⟩) g1
          · have hno : ¬ yaV c l a b := by
              rintro (⟨-, -, z | z⟩ | ⟨z, -⟩ | z | ⟨z, -⟩)
              · exact g2 z
              · exact g3 z
              · omega
              · omega
              · exact z h1
            rw [if_neg g3, if_pos rfl, xb_I1, if_neg (by decide), xb_I1, if_pos (Or.inl rfl)]
            have := no hno
            rw [if_neg hno] at this ⊢
            exact this
      · have hno : ¬ yaV c l a b := by
          rintro (⟨-, z, -⟩ | ⟨z, -⟩ | z | ⟨z, -⟩)
          · exact g1 z
          · omega
          · omega
          · exact z h1
        rw [if_neg g1, if_pos rfl, xb_I1, if_pos (Or.inl rfl)]
        have := no hno
        rw [if_neg hno] at this ⊢
        exact this
    · rw [if_neg h1]
      by_cases h2 : l.toInt = 105
      · rw [if_pos h2, qX7_actIll_eq, yc_has i2 hc, xb_I1]
        by_cases g1 : 0 ≤ a.toInt ∧ a.toInt < (c : Int)
        · have hv : yaV c l a b := Or.inr (Or.inl ⟨h2, g1.1, g1.2⟩)
          rw [if_pos g1, if_pos (by decide), qX5_turnIll_eq, xb_V1, xb_I1, if_pos (Or.inr rfl), if_pos hv]
          obtain ⟨A, hA, hA2⟩ := ynat g1.1 (Int.le_of_lt g1.2)
          have bA := xt_nat (n := A) (by omega)
          have hAc : A < 8 := by rw [hA] at g1; omega
          refine ⟨_, rfl, y27 (fun i hi => ?_) (fun r hr => ?_) (fun r hr => ?_) ?_ ?_ ?_, fun k j _ _ _ _ h _ _ _ => xu_k h⟩
          · rw [yAct_i hv h2]
            show _ = if i = 16 + a.toInt.toNat then 1 - yq_s I 15 i else yq_s I 15 i
            rw [if_neg (by omega), yq_s_1 hi, yq_s_1 hi]
            exact xu_k (by decide)
          · rw [yAct_i hv h2]
            show _ = if 8 + r = 16 + a.toInt.toNat then 1 - yq_s I 15 (8 + r) else yq_s I 15 (8 + r)
            rw [if_neg (by omega), yq_s_2 hr, yq_s_2 hr]
            exact xu_k (by decide)
          · rw [yAct_i hv h2]
            show _ = if 16 + r = 16 + a.toInt.toNat then 1 - yq_s I 15 (16 + r) else yq_s I 15 (16 + r)
            rw [yq_s_3 hr, yq_s_3 hr]
            show yIl (xq_upd I 15 2 (I 15 2 ^^^ ((1 : Int32) <<< (a &&& 31))) 15 2) r = _
            rw [xu_t, hA, yIl_x hAc hr, bA]
            by_cases e : r = A
            · rw [if_pos e, if_pos (by omega)]
            · rw [if_neg e, if_neg (by omega)]
          · rw [yAct_i hv h2]
            show _ = if 24 = 16 + a.toInt.toNat then 1 - yq_s I 15 24 else yq_s I 15 24
            rw [if_neg (by rw [hA]; omega), yq_s_24, yq_s_24]
            exact xu_j (by decide)
          · rw [yAct_i hv h2]
            show _ = if 25 = 16 + a.toInt.toNat then 1 - yq_s I 15 25 else yq_s I 15 25
            rw [if_neg (by rw [hA]; omega), yq_s_25, yq_s_25]
            exact xu_j (by decide)
          · rw [yAct_i hv h2]
            show _ = if 26 = 16 + a.toInt.toNat then 1 - yq_s I 15 26 else yq_s I 15 26
            rw [if_neg (by rw [hA]; omega), yq_s_26, yq_s_26]
            exact xu_j (by decide)
        · have hno : ¬ yaV c l a b := by
            rintro (⟨z, -⟩ | ⟨-, z⟩ | z | ⟨-, z, -⟩)
            · exact h1 z
            · exact g1 z
            · omega
            · exact z h2
          rw [if_neg g1, if_neg (by decide), xb_I1, if_pos (Or.inl rfl)]
          have := no hno
          rw [if_neg hno] at this ⊢
          exact this
      · rw [if_neg h2]
        by_cases h3 : l.toInt = 110
        · have hv : yaV c l a b := Or.inr (Or.inr (Or.inl h3))
          obtain ⟨N, hN1, rfl⟩ := hN h3
          obtain ⟨I', g0, g1, g2⟩ := yNca15 (d := d) (J := J) (R := R) (N := N) (by omega) hn hc hq hR i1 i2 i4 hL hr hw
          have bN := xt_nat (n := N) (by omega)
          have bN2 : (Int32.ofNat N).toInt.toNat = N := by omega
          rw [if_pos h3, g0, xb_V1, if_pos hv]
          refine ⟨I', rfl, fun i hi => ?_, fun k j q1 q2 q3 q4 q5 q6 q7 q8 => g2 k j q1 q2 q3 q4 q7 q8 (by omega)⟩
          rw [yAct_N hv h3, bN2]
          exact g1 i hi
        · rw [if_neg h3, qX7_actExchange_eq, yc_two i2 hc, xb_I1]
          by_cases g1 : (0 ≤ a.toInt ∧ a.toInt < (c : Int)) ∧ (0 ≤ b.toInt ∧ b.toInt < (c : Int)) ∧ ¬ a = b
          · have hv : yaV c l a b := Or.inr (Or.inr (Or.inr ⟨h1, h2, h3, g1.1, g1.2.1, g1.2.2⟩))
            obtain ⟨I', u0, u1, u2⟩ := yc_exl (d := d + 5) (x := a) (y := b) (J := J) (R := R) 8 0 I rfl
            have u0' : qX7_actExchange_h16 (d + 5) a b 0 (I, J, R) = some (some (.int 1), I', J, R) := u0
            rw [if_pos g1, if_pos (by decide), u0', xb_I1, if_pos (Or.inr rfl), if_pos hv]
            refine ⟨I', rfl, fun i hi => ?_, fun k j _ _ _ _ _ h _ _ => u1 k j (fun z => h z.1)⟩
            rw [yAct_x hv h1 h2 h3]
            show _ = if i < 8 then ysw a b (yq_s I 15 i) else yq_s I 15 i
            by_cases h8 : i < 8
            · rw [if_pos h8, yq_s_1 h8, yq_s_1 h8]
              exact u2 i (Nat.zero_le _) h8
            · rw [if_neg h8]
              exact yq_s_hi (fun j _ => u1 17 j (by omega)) (fun j _ _ => u1 15 j (by omega)) (by omega) hi
          · have hno : ¬ yaV c l a b := by
              rintro (⟨z, -⟩ | ⟨z, -⟩ | z | ⟨-, -, -, z⟩)
              · exact h1 z
              · exact h2 z
              · exact h3 z
              · exact g1 z
            rw [if_neg g1, if_neg (by decide), xb_I1, if_pos (Or.inl rfl)]
            have := no hno
            rw [if_neg hno] at this ⊢
            exact this
  rw [qX7_act_eq]
  by_cases h : o2 = 45
  · rw [if_neg (fun z => z h), if_pos h]
    exact key _ _ hN
  · rw [if_pos h, if_neg h]
    exact key _ _ hN
end YU19
