/-! A YEAR: the class, whole -/
section YYF
variable {d n0 n c q K : Nat} {I : Nat → Nat → Int32} {J : Nat → Nat → Int64} {R : Nat → Nat → Nat} {T : Nat → Int32} {l x y o1 o2 : Int32} {S : xq_S}
def ycF (n c q : Nat) (I : Nat → Nat → Int32) (R : Nat → Nat → Nat) : Prop := I 3 7 = Int32.ofNat n ∧ I 3 6 = Int32.ofNat c ∧ I 10 4 = Int32.ofNat q ∧ R 3 9 = 10
theorem ycF_cg {I' : Nat → Nat → Int32} (h : ycF n c q I R) (h1 : ∀ k j, ¬ k = 7 → ¬ k = 8 → ¬ k = 9 → ¬ k = 13 → ¬ k = 15 → ¬ k = 16 → ¬ k = 17 → ¬ (k = 3 ∧ (j = 10 ∨ j = 11)) → I' k j = I k j) : ycF n c q I' R := by
  obtain ⟨g1, g2, g3, g4⟩ := h
  exact ⟨(h1 3 7 (by decide) (by decide) (by decide) (by decide) (by decide) (by decide) (by decide) (by decide)).trans g1, (h1 3 6 (by decide) (by decide) (by decide) (by decide) (by decide) (by decide) (by decide) (by decide)).trans g2, (h1 10 4 (by decide) (by decide) (by decide) (by decide) (by decide) (by decide) (by decide) (by decide)).trans g3, g4⟩
theorem yc_alll {N : Nat} (hN : N ≤ 1000) (hn : n ≤ 8) (hc : c ≤ 8) (hq : q ≤ 40) : ∀ (m v : Nat) (I : Nat → Nat → Int32), v + m = N → ycF n c q I R → ∃ I', qX0_passAll_15_h2 (d + 5) (Int32.ofNat N) (Int32.ofNat v) (I, J, R) = some (none, I', J, R) ∧ (∀ k j, ¬ k = 7 → ¬ k = 8 → ¬ k = 9 → ¬ k = 13 → ¬ k = 15 → ¬ k = 16 → ¬ k = 17 → ¬ (k = 3 ∧ (j = 10 ∨ j = 11)) → I' k j = I k j)
  | 0, v, I, hm, hF => by
    have e : v = N := by omega
    subst e
    refine ⟨I, ?_, fun _ _ _ _ _ _ _ _ _ _ => rfl⟩
    rw [qX0_passAll_15_h2_eq, if_pos (Int32.le_refl _)]
  | m + 1, v, I, hm, hF => by
    have a1 : Int32.ofNat v + (1 : Int32) = Int32.ofNat (v + 1) := (Int32.ofNat_add v 1).symm
    obtain ⟨I1, M, g0, -, -, -, -, -, -, -, -, g1⟩ := yc_pass15 (d := d) (J := J) hn hc hq hF.2.2.2 hF.1 hF.2.1 hF.2.2.1
    have f1 : ∀ k j, ¬ k = 7 → ¬ k = 8 → ¬ k = 9 → ¬ k = 13 → ¬ k = 15 → ¬ k = 16 → ¬ k = 17 → ¬ (k = 3 ∧ (j = 10 ∨ j = 11)) → I1 k j = I k j := fun k j h1 h2 h3 h4 h5 h6 h7 h8 => g1 k j h1 h2 h3 h4 h7 h8 (by omega)
    obtain ⟨I', k0, k1⟩ := yc_alll hN hn hc hq m (v + 1) I1 (by omega) (ycF_cg hF f1)
    refine ⟨I', ?_, fun k j h1 h2 h3 h4 h5 h6 h7 h8 => (k1 k j h1 h2 h3 h4 h5 h6 h7 h8).trans (f1 k j h1 h2 h3 h4 h5 h6 h7 h8)⟩
    rw [qX0_passAll_15_h2_eq, if_neg (fun z => by have := (xr_le (by omega) (by omega)).mp z; omega), g0, xb_V1, a1]
    exact k0
theorem yc_exl : ∀ (m i : Nat) (I : Nat → Nat → Int32), i + m = 8 → ∃ I', qX7_actExchange_h16 d x y (Int32.ofNat i) (I, J, R) = some (some (.int 1), I', J, R) ∧ (∀ k j, ¬ (k = 16 ∧ i ≤ j ∧ j < 8) → I' k j = I k j) ∧ ∀ j, i ≤ j → j < 8 → I' 16 j = ysw x y (I 16 j)
  | 0, i, I, h => by
    refine ⟨I, ?_, fun _ _ _ => rfl, fun j h1 h2 => by omega⟩
    rw [qX7_actExchange_h16_eq, if_pos (show (8 : Int32) ≤ Int32.ofNat i from (xr_le (a := 8) (by omega) (by omega)).mpr (by omega))]
  | m + 1, i, I, h => by
    have a1 : Int32.ofNat i + (1 : Int32) = Int32.ofNat (i + 1) := (Int32.ofNat_add i 1).symm
    have b1 := xt_nat (n := i) (by omega)
    have b2 : (Int32.ofNat i).toInt.toNat = i := by omega
    obtain ⟨I', g0, g1, g2⟩ := yc_exl m (i + 1) (xq_upd I 16 i (ysw x y (I 16 i))) (by omega)
    refine ⟨I', ?_, fun k j h => by rw [g1 k j (by omega), xq_upd_n (by omega)], fun j h1 h2 => ?_⟩
    · have e95 : (I, J, R).1 16 i = I 16 i := rfl
      have eup : I 16 i = ysw x y (I 16 i) → xq_upd I 16 i (ysw x y (I 16 i)) = I := by
        intro z
        funext k j
        by_cases hk : k = 16 ∧ j = i
        · obtain ⟨rfl, rfl⟩ := hk
          rw [xu_t, ← z]
        · rw [xq_upd_n hk]
      rw [qX7_actExchange_h16_eq, if_neg (show ¬ (8 : Int32) ≤ Int32.ofNat i from fun z => by have := (xr_le (a := 8) (by omega) (by omega)).mp z; omega), b2, b1, if_pos (by omega), e95]
      by_cases h1 : I 16 i = x
      · rw [if_neg (fun z => z h1), if_pos (by omega), qX7_actExchange_h71_eq, a1]
        rw [show ysw x y (I 16 i) = y from if_pos h1] at g0
        exact g0
      · rw [if_pos h1, if_pos (by omega)]
        by_cases h2 : I 16 i = y
        · rw [if_neg (fun z => z h2), if_pos (by omega), qX7_actExchange_h71_eq, a1]
          rw [show ysw x y (I 16 i) = x from (if_neg h1).trans (if_pos h2)] at g0
          exact g0
        · have hs : ysw x y (I 16 i) = I 16 i := (if_neg h1).trans (if_neg h2)
          rw [if_pos h2, qX7_actExchange_h71_eq, a1]
          rw [eup hs.symm] at g0
          exact g0
    · by_cases hj : j = i
      · subst hj
        rw [g1 16 j (by omega), xu_t]
      · rw [g2 j (by omega) h2, xq_upd_n (by omega)]
theorem yc_hour : xq_D xqP (d + 1) 137 [.int x] S = some (some (.int (if 0 ≤ x.toInt ∧ x.toInt ≤ 7 then 1 else 0)), S) := by
  have e0 : ((0 : Int32)).toInt = 0 := by decide
  have e8 : ((8 : Int32)).toInt = 8 := by decide
  rw [qX7_isHour_eq]
  by_cases h1 : x.toInt < 0
  · rw [if_pos (xt_lt.mpr (by omega)), if_neg (by omega)]
  · rw [if_neg (fun z => by have := xt_lt.mp z; omega)]
    by_cases h2 : 8 ≤ x.toInt
    · rw [if_pos (Int32.not_lt.mp (fun z => by have := xt_lt.mp z; omega)), if_neg (by omega)]
    · rw [if_neg (Int32.not_le.mpr (xt_lt.mpr (by omega))), if_pos (by omega)]
/-- an ACT -/
theorem yc_actv (hn : n ≤ 8) (hc : c ≤ 8) (hq : q ≤ 40) (hF : ycF n c q I R) (hN : l.toInt = 110 → ∃ N, N ≤ 9 ∧ o1 - 48 = Int32.ofNat N) : ∃ I', xq_D xqP (d + 7) 98 [.ref 0, .int l, .int o1, .int o2] (I, J, R) = some (some (.int (if yaV c l (o1 - 48) (if o2 = 45 then -1 else o2 - 48) then 1 else 0)), I', J, R) ∧ (∀ k j, ¬ k = 7 → ¬ k = 8 → ¬ k = 9 → ¬ k = 13 → ¬ k = 15 → ¬ k = 16 → ¬ k = 17 → ¬ (k = 3 ∧ (j = 10 ∨ j = 11)) → I' k j = I k j) := by
  have key : ∀ a b : Int32, (l.toInt = 110 → ∃ N, N ≤ 9 ∧ a = Int32.ofNat N) → ∃ I', qX7_act_h20 (d + 6) l a b (I, J, R) = some (some (.int (if yaV c l a b then 1 else 0)), I', J, R) ∧ (∀ k j, ¬ k = 7 → ¬ k = 8 → ¬ k = 9 → ¬ k = 13 → ¬ k = 15 → ¬ k = 16 → ¬ k = 17 → ¬ (k = 3 ∧ (j = 10 ∨ j = 11)) → I' k j = I k j) := by
    intro a b hN
    rw [qX7_act_h20_eq]
    by_cases h1 : l.toInt = 103
    · rw [if_pos h1, qX7_actGive_eq, yc_hour, xb_I1]
      by_cases g1 : 0 ≤ a.toInt ∧ a.toInt ≤ 7
      · rw [if_pos g1, if_neg (by decide), qX0_isSomebodyOrNobody_eq]
        by_cases g2 : b = -1
        · rw [if_pos g2, xb_I1, if_pos (by decide), if_pos (by omega), xb_I1, if_pos (Or.inr rfl), if_pos (show yaV c l a b from Or.inl ⟨h1, g1, Or.inl g2⟩)]
          exact ⟨_, rfl, fun k j _ _ _ _ _ h _ _ => xu_k h⟩
        · rw [if_neg g2, yc_has hF.2.1 hc, xb_I1]
          by_cases g3 : 0 ≤ b.toInt ∧ b.toInt < (c : Int)
          · rw [if_pos g3, if_neg (by decide), xb_I1, if_pos (by decide), if_pos (by omega), xb_I1, if_pos (Or.inr rfl), if_pos (show yaV c l a b from Or.inl ⟨h1, g1, Or.inr g3⟩)]
            exact ⟨_, rfl, fun k j _ _ _ _ _ h _ _ => xu_k h⟩
          · have hno : ¬ yaV c l a b := by
              rintro (⟨-, -, z | z⟩ | ⟨z, -⟩ | z | ⟨z, -⟩)
              · exact g2 z
              · exact g3 z
              · omega
              · omega
              · exact z h1
            rw [if_neg g3, if_pos rfl, xb_I1, if_neg (by decide), xb_I1, if_pos (Or.inl rfl), if_neg hno]
            exact ⟨I, rfl, fun _ _ _ _ _ _ _ _ _ _ => rfl⟩
      · have hno : ¬ yaV c l a b := by
          rintro (⟨-, z, -⟩ | ⟨z, -⟩ | z | ⟨z, -⟩)
          · exact g1 z
          · omega
          · omega
          · exact z h1
        rw [if_neg g1, if_pos rfl, xb_I1, if_pos (Or.inl rfl), if_neg hno]
        exact ⟨I, rfl, fun _ _ _ _ _ _ _ _ _ _ => rfl⟩
    · rw [if_neg h1]
      by_cases h2 : l.toInt = 105
      · rw [if_pos h2, qX7_actIll_eq, yc_has hF.2.1 hc, xb_I1]
        by_cases g1 : 0 ≤ a.toInt ∧ a.toInt < (c : Int)
        · rw [if_pos g1, if_pos (by decide), qX5_turnIll_eq, xb_V1, xb_I1, if_pos (Or.inr rfl), if_pos (show yaV c l a b from Or.inr (Or.inl ⟨h2, g1.1, g1.2⟩))]
          exact ⟨_, rfl, fun k j _ _ _ _ h _ _ _ => xu_k h⟩
        · have hno : ¬ yaV c l a b := by
            rintro (⟨z, -⟩ | ⟨-, z⟩ | z | ⟨-, z, -⟩)
            · exact h1 z
            · exact g1 z
            · omega
            · exact z h2
          rw [if_neg g1, if_neg (by decide), xb_I1, if_pos (Or.inl rfl), if_neg hno]
          exact ⟨I, rfl, fun _ _ _ _ _ _ _ _ _ _ => rfl⟩
      · rw [if_neg h2]
        by_cases h3 : l.toInt = 110
        · obtain ⟨N, hN1, rfl⟩ := hN h3
          obtain ⟨I', g0, g1⟩ := yc_alll (d := d) (J := J) (R := R) (N := N) (by omega) hn hc hq N 0 I (by omega) hF
          have g0' : qX0_passAll_15_h2 (d + 5) (Int32.ofNat N) 0 (I, J, R) = some (none, I', J, R) := g0
          rw [if_pos h3, qX0_passAll_15_eq, g0', xb_V1, if_pos (show yaV c l (Int32.ofNat N) b from Or.inr (Or.inr (Or.inl h3)))]
          exact ⟨I', rfl, g1⟩
        · rw [if_neg h3, qX7_actExchange_eq, yc_two hF.2.1 hc, xb_I1]
          by_cases g1 : (0 ≤ a.toInt ∧ a.toInt < (c : Int)) ∧ (0 ≤ b.toInt ∧ b.toInt < (c : Int)) ∧ ¬ a = b
          · obtain ⟨I', u0, u1, u2⟩ := yc_exl (d := d + 5) (x := a) (y := b) (J := J) (R := R) 8 0 I rfl
            have u0' : qX7_actExchange_h16 (d + 5) a b 0 (I, J, R) = some (some (.int 1), I', J, R) := u0
            rw [if_pos g1, if_pos (by decide), u0', xb_I1, if_pos (Or.inr rfl), if_pos (show yaV c l a b from Or.inr (Or.inr (Or.inr ⟨h1, h2, h3, g1.1, g1.2.1, g1.2.2⟩)))]
            exact ⟨I', rfl, fun k j _ _ _ _ _ h _ _ => u1 k j (fun z => h z.1)⟩
          · have hno : ¬ yaV c l a b := by
              rintro (⟨z, -⟩ | ⟨z, -⟩ | z | ⟨-, -, -, z⟩)
              · exact h1 z
              · exact h2 z
              · exact h3 z
              · exact g1 z
            rw [if_neg g1, if_neg (by decide), xb_I1, if_pos (Or.inl rfl), if_neg hno]
            exact ⟨I, rfl, fun _ _ _ _ _ _ _ _ _ _ => rfl⟩
  rw [qX7_act_eq]
  by_cases h : o2 = 45
  · rw [if_neg (fun z => z h), if_pos h]
    exact key _ _ hN
  · rw [if_pos h, if_neg h]
    exact key _ _ hN
theorem yc_cp18 : ∃ I', xq_D xqP (d + 1) 85 [.ref 18, .ref 15] (I, J, R) = some (none, I', J, R) ∧ ∀ k j, ¬ k = 18 → ¬ k = 19 → ¬ k = 20 → I' k j = I k j := by
  refine ⟨_, qX5_copy_18_15_eq d (I, J, R), fun k j h1 h2 h3 => ?_⟩
  rw [xu_k h1, xu_k h1, xu_k h1, xu_k h1]
  unfold xq_cpy
  rw [if_neg (fun q => h3 q.1), if_neg (fun q => h2 q.1)]
theorem yc_cp26 : ∃ I', xq_D xqP (d + 1) 85 [.ref 26, .ref 18] (I, J, R) = some (none, I', J, R) ∧ ∀ k j, ¬ (26 ≤ k ∧ k ≤ 61) → I' k j = I k j := by
  refine ⟨_, qX5_copy_26_18_eq d (I, J, R), fun k j h => ?_⟩
  rw [xu_k (by omega), xu_k (by omega), xu_k (by omega), xu_k (by omega)]
  unfold xq_cpy
  rw [if_neg (fun q => h ⟨by omega, by omega⟩), if_neg (fun q => h ⟨by omega, by omega⟩)]
theorem yc_cp29 : ∃ I', xq_D xqP (d + 1) 85 [.ref 29, .ref 18] (I, J, R) = some (none, I', J, R) ∧ ∀ k j, ¬ (26 ≤ k ∧ k ≤ 61) → I' k j = I k j := by
  refine ⟨_, qX5_copy_29_18_eq d (I, J, R), fun k j h => ?_⟩
  rw [xu_k (by omega), xu_k (by omega), xu_k (by omega), xu_k (by omega)]
  unfold xq_cpy
  rw [if_neg (fun q => h ⟨by omega, by omega⟩), if_neg (fun q => h ⟨by omega, by omega⟩)]
theorem yc_cp32 : ∃ I', xq_D xqP (d + 1) 85 [.ref 32, .ref 18] (I, J, R) = some (none, I', J, R) ∧ ∀ k j, ¬ (26 ≤ k ∧ k ≤ 61) → I' k j = I k j := by
  refine ⟨_, qX5_copy_32_18_eq d (I, J, R), fun k j h => ?_⟩
  rw [xu_k (by omega), xu_k (by omega), xu_k (by omega), xu_k (by omega)]
  unfold xq_cpy
  rw [if_neg (fun q => h ⟨by omega, by omega⟩), if_neg (fun q => h ⟨by omega, by omega⟩)]
theorem yc_cp35 : ∃ I', xq_D xqP (d + 1) 85 [.ref 35, .ref 18] (I, J, R) = some (none, I', J, R) ∧ ∀ k j, ¬ (26 ≤ k ∧ k ≤ 61) → I' k j = I k j := by
  refine ⟨_, qX5_copy_35_18_eq d (I, J, R), fun k j h => ?_⟩
  rw [xu_k (by omega), xu_k (by omega), xu_k (by omega), xu_k (by omega)]
  unfold xq_cpy
  rw [if_neg (fun q => h ⟨by omega, by omega⟩), if_neg (fun q => h ⟨by omega, by omega⟩)]
theorem yc_cp38 : ∃ I', xq_D xqP (d + 1) 85 [.ref 38, .ref 18] (I, J, R) = some (none, I', J, R) ∧ ∀ k j, ¬ (26 ≤ k ∧ k ≤ 61) → I' k j = I k j := by
  refine ⟨_, qX5_copy_38_18_eq d (I, J, R), fun k j h => ?_⟩
  rw [xu_k (by omega), xu_k (by omega), xu_k (by omega), xu_k (by omega)]
  unfold xq_cpy
  rw [if_neg (fun q => h ⟨by omega, by omega⟩), if_neg (fun q => h ⟨by omega, by omega⟩)]
theorem yc_cp41 : ∃ I', xq_D xqP (d + 1) 85 [.ref 41, .ref 18] (I, J, R) = some (none, I', J, R) ∧ ∀ k j, ¬ (26 ≤ k ∧ k ≤ 61) → I' k j = I k j := by
  refine ⟨_, qX5_copy_41_18_eq d (I, J, R), fun k j h => ?_⟩
  rw [xu_k (by omega), xu_k (by omega), xu_k (by omega), xu_k (by omega)]
  unfold xq_cpy
  rw [if_neg (fun q => h ⟨by omega, by omega⟩), if_neg (fun q => h ⟨by omega, by omega⟩)]
theorem yc_cp44 : ∃ I', xq_D xqP (d + 1) 85 [.ref 44, .ref 18] (I, J, R) = some (none, I', J, R) ∧ ∀ k j, ¬ (26 ≤ k ∧ k ≤ 61) → I' k j = I k j := by
  refine ⟨_, qX5_copy_44_18_eq d (I, J, R), fun k j h => ?_⟩
  rw [xu_k (by omega), xu_k (by omega), xu_k (by omega), xu_k (by omega)]
  unfold xq_cpy
  rw [if_neg (fun q => h ⟨by omega, by omega⟩), if_neg (fun q => h ⟨by omega, by omega⟩)]
theorem yc_cp47 : ∃ I', xq_D xqP (d + 1) 85 [.ref 47, .ref 18] (I, J, R) = some (none, I', J, R) ∧ ∀ k j, ¬ (26 ≤ k ∧ k ≤ 61) → I' k j = I k j := by
  refine ⟨_, qX5_copy_47_18_eq d (I, J, R), fun k j h => ?_⟩
  rw [xu_k (by omega), xu_k (by omega), xu_k (by omega), xu_k (by omega)]
  unfold xq_cpy
  rw [if_neg (fun q => h ⟨by omega, by omega⟩), if_neg (fun q => h ⟨by omega, by omega⟩)]
theorem yc_cp50 : ∃ I', xq_D xqP (d + 1) 85 [.ref 50, .ref 18] (I, J, R) = some (none, I', J, R) ∧ ∀ k j, ¬ (26 ≤ k ∧ k ≤ 61) → I' k j = I k j := by
  refine ⟨_, qX5_copy_50_18_eq d (I, J, R), fun k j h => ?_⟩
  rw [xu_k (by omega), xu_k (by omega), xu_k (by omega), xu_k (by omega)]
  unfold xq_cpy
  rw [if_neg (fun q => h ⟨by omega, by omega⟩), if_neg (fun q => h ⟨by omega, by omega⟩)]
theorem yc_cp53 : ∃ I', xq_D xqP (d + 1) 85 [.ref 53, .ref 18] (I, J, R) = some (none, I', J, R) ∧ ∀ k j, ¬ (26 ≤ k ∧ k ≤ 61) → I' k j = I k j := by
  refine ⟨_, qX5_copy_53_18_eq d (I, J, R), fun k j h => ?_⟩
  rw [xu_k (by omega), xu_k (by omega), xu_k (by omega), xu_k (by omega)]
  unfold xq_cpy
  rw [if_neg (fun q => h ⟨by omega, by omega⟩), if_neg (fun q => h ⟨by omega, by omega⟩)]
theorem yc_cp56 : ∃ I', xq_D xqP (d + 1) 85 [.ref 56, .ref 18] (I, J, R) = some (none, I', J, R) ∧ ∀ k j, ¬ (26 ≤ k ∧ k ≤ 61) → I' k j = I k j := by
  refine ⟨_, qX5_copy_56_18_eq d (I, J, R), fun k j h => ?_⟩
  rw [xu_k (by omega), xu_k (by omega), xu_k (by omega), xu_k (by omega)]
  unfold xq_cpy
  rw [if_neg (fun q => h ⟨by omega, by omega⟩), if_neg (fun q => h ⟨by omega, by omega⟩)]
theorem yc_cp59 : ∃ I', xq_D xqP (d + 1) 85 [.ref 59, .ref 18] (I, J, R) = some (none, I', J, R) ∧ ∀ k j, ¬ (26 ≤ k ∧ k ≤ 61) → I' k j = I k j := by
  refine ⟨_, qX5_copy_59_18_eq d (I, J, R), fun k j h => ?_⟩
  rw [xu_k (by omega), xu_k (by omega), xu_k (by omega), xu_k (by omega)]
  unfold xq_cpy
  rw [if_neg (fun q => h ⟨by omega, by omega⟩), if_neg (fun q => h ⟨by omega, by omega⟩)]
theorem yc_push {M : Nat} (h : I 24 1 = Int32.ofNat M) (hM : M < 12) : ∃ I', xq_D xqP (d + 2) 42 [.ref 24, .ref 18] (I, J, R) = some (none, I', J, R) ∧ ∀ k j, ¬ (26 ≤ k ∧ k ≤ 61) → ¬ k = 24 → I' k j = I k j := by
  have h' : (I, J, R).1 24 1 = Int32.ofNat M := h
  have b1 := xt_nat (n := M) (by omega)
  have b2 : (Int32.ofNat M).toInt.toNat = M := by omega
  rw [qX2_push_18_eq, h', b2, b1, if_pos (by omega)]
  by_cases h0 : M = 0
  · obtain ⟨I', g0, g1⟩ := yc_cp26 (d := d) (I := I) (J := J) (R := R)
    rw [if_pos h0, g0, xb_V1]
    exact ⟨_, rfl, fun k j w1 w2 => (xu_k w2).trans ((xu_k w2).trans (g1 k j w1))⟩
  rw [if_neg h0]
  by_cases h1 : M = 1
  · obtain ⟨I', g0, g1⟩ := yc_cp29 (d := d) (I := I) (J := J) (R := R)
    rw [if_pos h1, g0, xb_V1]
    exact ⟨_, rfl, fun k j w1 w2 => (xu_k w2).trans ((xu_k w2).trans (g1 k j w1))⟩
  rw [if_neg h1]
  by_cases h2 : M = 2
  · obtain ⟨I', g0, g1⟩ := yc_cp32 (d := d) (I := I) (J := J) (R := R)
    rw [if_pos h2, g0, xb_V1]
    exact ⟨_, rfl, fun k j w1 w2 => (xu_k w2).trans ((xu_k w2).trans (g1 k j w1))⟩
  rw [if_neg h2]
  by_cases h3 : M = 3
  · obtain ⟨I', g0, g1⟩ := yc_cp35 (d := d) (I := I) (J := J) (R := R)
    rw [if_pos h3, g0, xb_V1]
    exact ⟨_, rfl, fun k j w1 w2 => (xu_k w2).trans ((xu_k w2).trans (g1 k j w1))⟩
  rw [if_neg h3]
  by_cases h4 : M = 4
  · obtain ⟨I', g0, g1⟩ := yc_cp38 (d := d) (I := I) (J := J) (R := R)
    rw [if_pos h4, g0, xb_V1]
    exact ⟨_, rfl, fun k j w1 w2 => (xu_k w2).trans ((xu_k w2).trans (g1 k j w1))⟩
  rw [if_neg h4]
  by_cases h5 : M = 5
  · obtain ⟨I', g0, g1⟩ := yc_cp41 (d := d) (I := I) (J := J) (R := R)
    rw [if_pos h5, g0, xb_V1]
    exact ⟨_, rfl, fun k j w1 w2 => (xu_k w2).trans ((xu_k w2).trans (g1 k j w1))⟩
  rw [if_neg h5]
  by_cases h6 : M = 6
  · obtain ⟨I', g0, g1⟩ := yc_cp44 (d := d) (I := I) (J := J) (R := R)
    rw [if_pos h6, g0, xb_V1]
    exact ⟨_, rfl, fun k j w1 w2 => (xu_k w2).trans ((xu_k w2).trans (g1 k j w1))⟩
  rw [if_neg h6]
  by_cases h7 : M = 7
  · obtain ⟨I', g0, g1⟩ := yc_cp47 (d := d) (I := I) (J := J) (R := R)
    rw [if_pos h7, g0, xb_V1]
    exact ⟨_, rfl, fun k j w1 w2 => (xu_k w2).trans ((xu_k w2).trans (g1 k j w1))⟩
  rw [if_neg h7]
  by_cases h8 : M = 8
  · obtain ⟨I', g0, g1⟩ := yc_cp50 (d := d) (I := I) (J := J) (R := R)
    rw [if_pos h8, g0, xb_V1]
    exact ⟨_, rfl, fun k j w1 w2 => (xu_k w2).trans ((xu_k w2).trans (g1 k j w1))⟩
  rw [if_neg h8]
  by_cases h9 : M = 9
  · obtain ⟨I', g0, g1⟩ := yc_cp53 (d := d) (I := I) (J := J) (R := R)
    rw [if_pos h9, g0, xb_V1]
    exact ⟨_, rfl, fun k j w1 w2 => (xu_k w2).trans ((xu_k w2).trans (g1 k j w1))⟩
  rw [if_neg h9]
  by_cases h10 : M = 10
  · obtain ⟨I', g0, g1⟩ := yc_cp56 (d := d) (I := I) (J := J) (R := R)
    rw [if_pos h10, g0, xb_V1]
    exact ⟨_, rfl, fun k j w1 w2 => (xu_k w2).trans ((xu_k w2).trans (g1 k j w1))⟩
  rw [if_neg h10]
  by_cases h11 : M = 11
  · obtain ⟨I', g0, g1⟩ := yc_cp59 (d := d) (I := I) (J := J) (R := R)
    rw [if_pos h11, g0, xb_V1]
    exact ⟨_, rfl, fun k j w1 w2 => (xu_k w2).trans ((xu_k w2).trans (g1 k j w1))⟩
  rw [if_neg h11]
  omega
end YYF
