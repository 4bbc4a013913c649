/-! A YEAR: the reference's ACTS -/
def ysw (x y e : Int32) : Int32 := if e = x then y else if e = y then x else e
def yaa (T : Nat → Int32) (i : Nat) : Int32 := T (yps T i + 1) - 48
def yab2 (T : Nat → Int32) (i : Nat) : Int32 := if T (yps T i + 2) = 45 then -1 else T (yps T i + 2) - 48
def yaN (c : Nat) (T : Nat → Int32) : Nat → Nat → Nat
  | 0, i => i
  | m + 1, i => if yaV c (T (yps T i)) (yaa T i) (yab2 T i) then yaN c T m (i + 1) else i
def yaZ (c n0 : Nat) (T : Nat → Int32) : Int32 := match yar T n0 80 0 0 with
  | .inl q => -1 - Int32.ofNat q
  | .inr K => Int32.ofNat (yaN c T K 0)
theorem yaf_inr {T : Nat → Int32} {p q : Nat} (h : yaf T p = .inr q) : q = p + yaL (T p) ∧ 2 ≤ yaL (T p) ∧ yaD (T (p + 1)) ∧ (yaL (T p) = 3 → yaE (T p) (T (p + 2))) := by
  unfold yaf at h
  by_cases h1 : yaL (T p) = 1
  · rw [if_pos h1] at h
    cases h
  · rw [if_neg h1] at h
    by_cases h2 : yaD (T (p + 1))
    · rw [if_neg (fun z => z h2)] at h
      by_cases h3 : yaL (T p) = 2
      · rw [if_pos h3] at h
        cases h
        exact ⟨by omega, by omega, h2, fun z => by omega⟩
      · rw [if_neg h3] at h
        have h4 : yaL (T p) = 3 := by
          rcases yaL_r (x := T p) with z | z | z <;> omega
        by_cases h5 : yaE (T p) (T (p + 2))
        · rw [if_neg (fun z => z h5)] at h
          cases h
          exact ⟨by omega, by omega, h2, fun _ => h5⟩
        · rw [if_pos h5] at h
          cases h
    · rw [if_pos h2] at h
      cases h
theorem yar_inr {T : Nat → Int32} {n0 K : Nat} : ∀ (m p k : Nat), yar T n0 m p k = .inr K → n0 ≤ p + m → p = yps T k → k ≤ K ∧ n0 ≤ yps T K ∧ ∀ i, k ≤ i → i < K → yps T i < n0 ∧ ∃ q, yaf T (yps T i) = .inr q := by
  intro m
  induction m with
  | zero =>
    intro p k h1 h2 h3
    rw [yar] at h1
    cases h1
    exact ⟨Nat.le_refl _, by omega, fun i h4 h5 => by omega⟩
  | succ m ih =>
    intro p k h1 h2 h3
    rw [yar] at h1
    by_cases hz : n0 ≤ p
    · rw [if_pos hz] at h1
      cases h1
      exact ⟨Nat.le_refl _, by omega, fun i h4 h5 => by omega⟩
    · rw [if_neg hz] at h1
      cases hf : yaf T p with
      | inl q =>
        rw [hf] at h1
        cases h1
      | inr q =>
        rw [hf] at h1
        obtain ⟨w1, w2, -, -⟩ := yaf_inr hf
        obtain ⟨u1, u2, u3⟩ := ih q (k + 1) h1 (by omega) (by rw [yps, ← h3]; exact w1)
        refine ⟨by omega, u2, fun i h4 h5 => ?_⟩
        by_cases hi : i = k
        · subst hi
          rw [← h3]
          exact ⟨by omega, q, hf⟩
        · exact u3 i (by omega) h5
theorem yaV_b {c : Nat} {l a b b' : Int32} (h : yaL l = 2) : yaV c l a b ↔ yaV c l a b' := by
  have h1 := yaL_2 h
  have h2 : l.toInt = 105 ∨ l.toInt = 110 := by
    unfold yaL at h
    rw [if_neg h1] at h
    by_cases h3 : l.toInt = 105
    · exact Or.inl h3
    · rw [if_neg h3] at h
      by_cases h4 : l.toInt = 110
      · exact Or.inr h4
      · rw [if_neg h4] at h
        by_cases h5 : l.toInt = 120
        · rw [if_pos h5] at h
          omega
        · rw [if_neg h5] at h
          omega
  rcases h2 with h2 | h2
  · exact ⟨fun z => Or.inr (Or.inl ⟨h2, by grind⟩), fun z => Or.inr (Or.inl ⟨h2, by grind⟩)⟩
  · exact ⟨fun _ => Or.inr (Or.inr (Or.inl h2)), fun _ => Or.inr (Or.inr (Or.inl h2))⟩
section YYD
variable {d n0 n c q0 : Nat} {I : Nat → Nat → Int32} {J : Nat → Nat → Int64} {R : Nat → Nat → Nat} {l a b x y : Int32} {S : xq_S}
theorem yr_exl : ∀ (m i : Nat) (I : Nat → Nat → Int32), i + m = 8 → ∃ I', qX8_goExchange_h2 d x y (Int32.ofNat i) (I, J, R) = some (none, I', J, R) ∧ (∀ k j, ¬ (k = 95 ∧ i ≤ j ∧ j < 8) → I' k j = I k j) ∧ ∀ j, i ≤ j → j < 8 → I' 95 j = ysw x y (I 95 j)
  | 0, i, I, h => by
    refine ⟨I, ?_, fun _ _ _ => rfl, fun j h1 h2 => by omega⟩
    rw [qX8_goExchange_h2_eq, if_pos (show (8 : Int32) ≤ Int32.ofNat i from (xr_le (a := 8) (by omega) (by omega)).mpr (by omega))]
  | m + 1, i, I, h => by
    have a1 : Int32.ofNat i + (1 : Int32) = Int32.ofNat (i + 1) := (Int32.ofNat_add i 1).symm
    have b1 := xt_nat (n := i) (by omega)
    have b2 : (Int32.ofNat i).toInt.toNat = i := by omega
    obtain ⟨I', g0, g1, g2⟩ := yr_exl m (i + 1) (xq_upd I 95 i (ysw x y (I 95 i))) (by omega)
    refine ⟨I', ?_, fun k j h => by rw [g1 k j (by omega), xq_upd_n (by omega)], fun j h1 h2 => ?_⟩
    · have k47 : ∀ w, qX8_goExchange_h47 d x y (Int32.ofNat i) w (Int32.ofNat i) (I, J, R) = qX8_goExchange_h2 d x y (Int32.ofNat (i + 1)) (xq_upd I 95 i w, J, R) := by
        intro w
        rw [qX8_goExchange_h47_eq, b2, b1, if_pos (by omega), a1]
      have e95 : (I, J, R).1 95 i = I 95 i := rfl
      rw [qX8_goExchange_h2_eq, if_neg (show ¬ (8 : Int32) ≤ Int32.ofNat i from fun z => by have := (xr_le (a := 8) (by omega) (by omega)).mp z; omega), b2, b1, if_pos (by omega), e95]
      by_cases h1 : I 95 i = x
      · rw [if_neg (fun z => z h1), k47]
        rw [show ysw x y (I 95 i) = y from if_pos h1] at g0
        exact g0
      · rw [if_pos h1, if_pos (by omega)]
        by_cases h2 : I 95 i = y
        · rw [if_neg (fun z => z h2), k47]
          rw [show ysw x y (I 95 i) = x from (if_neg h1).trans (if_pos h2)] at g0
          exact g0
        · rw [if_pos h2, if_pos (by omega), k47]
          rw [show ysw x y (I 95 i) = I 95 i from (if_neg h1).trans (if_neg h2)] at g0
          exact g0
    · by_cases hj : j = i
      · subst hj
        rw [g1 95 j (by omega), xu_t]
      · rw [g2 j (by omega) h2, xq_upd_n (by omega)]
theorem yr_hour : xq_D xqP (d + 2) 238 [.int a] S = some (some (.int (if 0 ≤ a.toInt ∧ a.toInt ≤ 7 then 1 else 0)), S) := by
  rw [qX8_isHour_eq, xe_in, xb_I1]
  show (if (if 0 ≤ a.toInt ∧ a.toInt ≤ 7 then (1 : Int32) else 0) = 0 ∨ (if 0 ≤ a.toInt ∧ a.toInt ≤ 7 then (1 : Int32) else 0) = 1 then some (some (Value.int (if 0 ≤ a.toInt ∧ a.toInt ≤ 7 then 1 else 0)), S) else none) = _
  rw [if_pos]
  split
  · exact Or.inr rfl
  · exact Or.inl rfl
/-- an ACT -/
theorem yr_actv (hn : n ≤ 8) (hc : c ≤ 8) (hq : q0 ≤ 40) (hF : yrF 95 n c q0 I R) (hN : l.toInt = 110 → ∃ N, N ≤ 9 ∧ a = Int32.ofNat N) : ∃ (I' : Nat → Nat → Int32) (R' : Nat → Nat → Nat), xq_D xqP (d + 176) 186 [.ref 94, .int l, .int a, .int b] (I, J, R) = some (some (.int (if yaV c l a b then 1 else 0)), I', J, R') ∧ yrF 95 n c q0 I' R' ∧ (∀ k j, ¬ k = 95 → ¬ k = 104 → ¬ k = 108 → ¬ k = 109 → ¬ (k = 94 ∧ (j = 13 ∨ j = 14 ∨ j = 15 ∨ j = 16 ∨ j = 27 ∨ j = 28)) → I' k j = I k j) ∧ (∀ k j, ¬ (k = 94 ∧ j = 12) → R' k j = R k j) := by
  obtain ⟨i1, i2, i3, i4, i5, i6, i7⟩ := hF
  have hcc : ∀ {P : Prop}, P → P := fun h => h
  rw [qX8_act_eq]
  by_cases h1 : l.toInt = 103
  · rw [if_pos h1, qX8_isGift_eq, yr_hour, xb_I1]
    by_cases g1 : 0 ≤ a.toInt ∧ a.toInt ≤ 7
    · rw [if_pos g1, if_neg (by decide)]
      have fin : yaV c l a b → -1 ≤ b.toInt → b.toInt ≤ 7 → ∃ (I' : Nat → Nat → Int32) (R' : Nat → Nat → Nat), xq_bI (some (some (Value.int 1), I, J, R)) (fun x8 S7 => (if ¬ x8 = 0 then (if 0 ≤ (a).toInt ∧ (a).toInt < ((27 : Nat) : Int) then (some (some (Value.int (1 : Int32)), ((xq_upd S7.1 95 (a).toInt.toNat b), S7.2))) else none) else (some (some (Value.int (0 : Int32)), S7)))) = some (some (Value.int (if yaV c l a b then 1 else 0)), I', J, R') ∧ yrF 95 n c q0 I' R' ∧ (∀ k j, ¬ k = 95 → ¬ k = 104 → ¬ k = 108 → ¬ k = 109 → ¬ (k = 94 ∧ (j = 13 ∨ j = 14 ∨ j = 15 ∨ j = 16 ∨ j = 27 ∨ j = 28)) → I' k j = I k j) ∧ (∀ k j, ¬ (k = 94 ∧ j = 12) → R' k j = R k j) := by
        intro u1 u2 u3
        rw [xb_I1, if_pos (by decide), if_pos (by omega), if_pos u1]
        refine ⟨xq_upd I 95 a.toInt.toNat b, R, rfl, ⟨?_, ?_, ?_, ?_, i5, fun i hi => ?_, fun i hi => ?_⟩, fun k j h _ _ _ _ => xu_k h, fun _ _ _ => rfl⟩
        · rw [xu_k (by decide)]; exact i1
        · rw [xu_k (by decide)]; exact i2
        · rw [xu_k (by decide)]; exact i3
        · rw [xu_k (by decide)]; exact i4
        · rw [xu_k (by decide)]; exact i6 i hi
        · by_cases hj : i = a.toInt.toNat
          · rw [hj, xu_t]; exact ⟨u2, u3⟩
          · rw [xu_j hj]; exact i7 i hi
      by_cases g2 : b = -1
      · rw [if_pos g2]
        exact fin (Or.inl ⟨h1, g1, Or.inl g2⟩) (by rw [g2]; decide) (by rw [g2]; decide)
      · rw [if_neg g2, yr_man i2 hc, xb_I1]
        by_cases g3 : 0 ≤ b.toInt ∧ b.toInt < (c : Int)
        · rw [if_pos g3, if_neg (by decide)]
          exact fin (Or.inl ⟨h1, g1, Or.inr g3⟩) (by omega) (by omega)
        · have hno : ¬ yaV c l a b := by
            rintro (⟨-, -, z | z⟩ | ⟨z, -⟩ | z | ⟨z, -⟩)
            · exact g2 z
            · exact g3 z
            · omega
            · omega
            · exact z h1
          rw [if_neg g3, if_pos rfl, xb_I1, if_neg (by decide), if_neg hno]
          exact ⟨I, R, rfl, ⟨i1, i2, i3, i4, i5, i6, i7⟩, fun _ _ _ _ _ _ _ => rfl, fun _ _ _ => rfl⟩
    · have hno : ¬ yaV c l a b := by
        rintro (⟨-, z, -⟩ | ⟨z, -⟩ | z | ⟨z, -⟩)
        · exact g1 z
        · omega
        · omega
        · exact z h1
      rw [if_neg g1, if_pos rfl, xb_I1, if_neg (by decide), if_neg hno]
      exact ⟨I, R, rfl, ⟨i1, i2, i3, i4, i5, i6, i7⟩, fun _ _ _ _ _ _ _ => rfl, fun _ _ _ => rfl⟩
  · rw [if_neg h1]
    by_cases h2 : l.toInt = 105
    · rw [if_pos h2, yr_man i2 hc, xb_I1]
      by_cases g1 : 0 ≤ a.toInt ∧ a.toInt < (c : Int)
      · have ea : a = Int32.ofNat a.toInt.toNat := by
          rw [xt_eq, xt_nat (by omega)]
          omega
        have a16 : (16 : Int32) + a = Int32.ofNat (16 + a.toInt.toNat) := by
          rw [Int32.ofNat_add, ← ea]
          rfl
        have b16 := xt_nat (n := 16 + a.toInt.toNat) (by omega)
        have c16 : (Int32.ofNat (16 + a.toInt.toNat)).toInt.toNat = 16 + a.toInt.toNat := by omega
        rw [if_pos g1, if_pos (by decide), a16, c16, b16, if_pos (by omega), if_pos (by omega), if_pos (show yaV c l a b from Or.inr (Or.inl ⟨h2, g1.1, g1.2⟩))]
        refine ⟨_, R, rfl, ⟨?_, ?_, ?_, ?_, i5, fun i hi => ?_, fun i hi => ?_⟩, fun k j h _ _ _ _ => xu_k h, fun _ _ _ => rfl⟩
        · rw [xu_k (by decide)]; exact i1
        · rw [xu_k (by decide)]; exact i2
        · rw [xu_k (by decide)]; exact i3
        · rw [xu_k (by decide)]; exact i4
        · rw [xu_k (by decide)]; exact i6 i hi
        · rw [xu_j (by omega)]; exact i7 i hi
      · have hno : ¬ yaV c l a b := by
          rintro (⟨z, -⟩ | ⟨-, z⟩ | z | ⟨-, z, -⟩)
          · exact h1 z
          · exact g1 z
          · omega
          · exact z h2
        rw [if_neg g1, if_neg (by decide), if_neg hno]
        exact ⟨I, R, rfl, ⟨i1, i2, i3, i4, i5, i6, i7⟩, fun _ _ _ _ _ _ _ => rfl, fun _ _ _ => rfl⟩
    · rw [if_neg h2]
      by_cases h3 : l.toInt = 110
      · obtain ⟨N, hN1, rfl⟩ := hN h3
        obtain ⟨I', R', g0, g1, g2⟩ := yr_gos95 (d := d) (J := J) (N := N) (by omega) hn hc hq (show yrF 95 n c q0 I R from ⟨i1, i2, i3, i4, i5, i6, i7⟩)
        rw [if_pos h3, g0, xb_V1, if_pos (show yaV c l (Int32.ofNat N) b from Or.inr (Or.inr (Or.inl h3)))]
        exact ⟨I', R', rfl, yrF_cg95 ⟨i1, i2, i3, i4, i5, i6, i7⟩ g1 g2, fun k j q1 q2 q3 q4 q5 => g1 k j q2 q3 q4 q5 (fun z => q1 z.1), g2⟩
      · rw [if_neg h3, yr_two i2 hc, xb_I1]
        by_cases g1 : (0 ≤ a.toInt ∧ a.toInt < (c : Int)) ∧ (0 ≤ b.toInt ∧ b.toInt < (c : Int)) ∧ ¬ a = b
        · obtain ⟨I', u0, u1, u2⟩ := yr_exl (d := d + 174) (x := a) (y := b) (J := J) (R := R) 8 0 I rfl
          have u0' : qX8_goExchange_h2 (d + 174) a b 0 (I, J, R) = some (none, I', J, R) := u0
          rw [if_pos g1, if_pos (by decide), qX8_goExchange_eq, u0', xb_V1, if_pos (show yaV c l a b from Or.inr (Or.inr (Or.inr ⟨h1, h2, h3, g1.1, g1.2.1, g1.2.2⟩)))]
          refine ⟨I', R, rfl, ⟨?_, ?_, ?_, ?_, i5, fun i hi => ?_, fun i hi => ?_⟩, fun k j h _ _ _ _ => u1 k j (fun z => h z.1), fun _ _ _ => rfl⟩
          · rw [u1 94 1 (by decide)]; exact i1
          · rw [u1 94 3 (by decide)]; exact i2
          · rw [u1 94 20 (by decide)]; exact i3
          · rw [u1 94 21 (by decide)]; exact i4
          · rw [u1 102 i (by omega)]; exact i6 i hi
          · rw [u2 i (Nat.zero_le _) hi]
            unfold ysw
            by_cases w1 : I 95 i = a
            · rw [if_pos w1]; omega
            · rw [if_neg w1]
              by_cases w2 : I 95 i = b
              · rw [if_pos w2]; omega
              · rw [if_neg w2]; exact i7 i hi
        · have hno : ¬ yaV c l a b := by
            rintro (⟨z, -⟩ | ⟨z, -⟩ | z | ⟨-, -, -, z⟩)
            · exact h1 z
            · exact h2 z
            · exact h3 z
            · exact g1 z
          rw [if_neg g1, if_neg (by decide), if_neg hno]
          exact ⟨I, R, rfl, ⟨i1, i2, i3, i4, i5, i6, i7⟩, fun _ _ _ _ _ _ _ => rfl, fun _ _ _ => rfl⟩
end YYD
