/-! A YEAR: the class's year() -/
section YYG
variable {d n0 n c q K : Nat} {I : Nat → Nat → Int32} {J : Nat → Nat → Int64} {R : Nat → Nat → Nat} {T : Nat → Int32} {S : xq_S}
theorem yaT_in {p : Nat} (h : ¬ yaT I n0 p = -1) : p < n0 ∧ p < 60 := by
  refine Decidable.byContradiction fun z => h ?_
  exact if_neg z
theorem yc_h132 {M : Nat} {v v3 v4 v5 : Int32} (h : I 24 1 = Int32.ofNat M) (hM : M < 12) : ∃ (I' : Nat → Nat → Int32) (J' : Nat → Nat → Int64), qX7_year_h132 (d + 2) v v3 v4 v5 (I, J, R) = some (some (.int v), I', J', R) ∧ I' 1 1 = 0 ∧ ∀ k j, ¬ (26 ≤ k ∧ k ≤ 61) → ¬ k = 24 → ¬ k = 1 → ¬ (k = 78 ∧ j = 1) → I' k j = I k j := by
  have fin : ∀ (I : Nat → Nat → Int32), ∃ (I' : Nat → Nat → Int32) (J' : Nat → Nat → Int64), qX7_year_h147 (d + 2) v v3 v4 v5 (I, J, R) = some (some (.int v), I', J', R) ∧ I' 1 1 = 0 ∧ ∀ k j, ¬ k = 1 → ¬ (k = 78 ∧ j = 1) → I' k j = I k j := by
    intro I
    rw [qX7_year_h147_eq, qX6_empty_eq, xb_V1]
    by_cases hv : v4 = 0
    · rw [if_pos hv, qX7_year_h168_eq, yc_tell2, xb_V1]
      exact ⟨_, _, rfl, by rw [xu_k (by decide), xu_k (by decide), xu_k (by decide), xu_t], fun k j h1 h2 => by rw [xq_upd_n h2, xq_upd_n h2, xq_upd_n h2, xu_k h1]⟩
    · rw [if_neg hv, qX7_year_h168_eq, yc_tell2, xb_V1]
      exact ⟨_, _, rfl, by rw [xu_k (by decide), xu_k (by decide), xu_k (by decide), xu_t], fun k j h1 h2 => by rw [xq_upd_n h2, xq_upd_n h2, xq_upd_n h2, xu_k h1]⟩
  rw [qX7_year_h132_eq]
  by_cases hv : v ≤ 0
  · rw [if_pos hv]
    obtain ⟨I', J', g0, g1, g2⟩ := fin I
    exact ⟨I', J', g0, g1, fun k j _ _ h3 h4 => g2 k j h3 h4⟩
  · rw [if_neg hv]
    obtain ⟨I1, k0, k1⟩ := yc_push (d := d) (J := J) (R := R) h hM
    obtain ⟨I', J', g0, g1, g2⟩ := fin I1
    rw [k0, xb_V1]
    exact ⟨I', J', g0, g1, fun k j h1 h2 h3 h4 => (g2 k j h3 h4).trans (k1 k j h1 h2)⟩
theorem yps_2 (hv : ∀ i, i < K → ∃ q, yaf T (yps T i) = .inr q) : ∀ i, i ≤ K → 2 * i ≤ yps T i
  | 0, _ => by omega
  | i + 1, h => by
    have := yps_2 hv i (by omega)
    obtain ⟨q, hq⟩ := hv i (by omega)
    obtain ⟨-, w2, -⟩ := yaf_inr hq
    rw [yps]
    omega
theorem yc_h42 (hn : n ≤ 8) (hc : c ≤ 8) (hq : q ≤ 40) (hn0 : n0 ≤ 80) (hv : ∀ i, i < K → yps T i < n0 ∧ ∃ q, yaf T (yps T i) = .inr q) (hK : n0 ≤ yps T K) (hK3 : K ≤ 30) (hKs : yps T K ≤ 100) : ∀ (m i : Nat) (I : Nat → Nat → Int32), i + m = K → ycF n c q I R → I 1 1 = Int32.ofNat n0 → yaT I n0 = T → ∃ (I' : Nat → Nat → Int32) (v3 v4 v5 : Int32), qX7_year_h42 (d + 7) (Int32.ofNat i) (Int32.ofNat (yps T i)) 1 (Int32.ofNat i) (I, J, R) = qX7_year_h132 (d + 7) (Int32.ofNat (yaN c T m i)) v3 v4 v5 (I', J, R) ∧ (∀ k j, ¬ k = 7 → ¬ k = 8 → ¬ k = 9 → ¬ k = 13 → ¬ k = 15 → ¬ k = 16 → ¬ k = 17 → ¬ (k = 3 ∧ (j = 10 ∨ j = 11)) → I' k j = I k j)
  | 0, i, I, h1, h2, h3, h4 => by
    have : i = K := by omega
    subst this
    have h3' : (I, J, R).1 1 1 = Int32.ofNat n0 := h3
    refine ⟨I, Int32.ofNat (yps T i), 1, Int32.ofNat i, ?_, fun _ _ _ _ _ _ _ _ _ _ => rfl⟩
    rw [qX7_year_h42_eq, if_neg (show ¬ (60 : Int32) ≤ Int32.ofNat i from fun z => by have := (xr_le (a := 60) (by omega) (by omega)).mp z; omega), if_neg (by decide), h3', if_pos ((xr_le (by omega) (by omega)).mpr hK)]
    rfl
  | m + 1, i, I, h1, h2, h3, h4 => by
    have hi : i < K := by omega
    have h3' : (I, J, R).1 1 1 = Int32.ofNat n0 := h3
    obtain ⟨hp, qq, hq1⟩ := hv i hi
    obtain ⟨w1, w2, w3, w4⟩ := yaf_inr hq1
    have hp0 : ¬ T (yps T i) = -1 := fun z => by rw [z] at w2; revert w2; decide
    have hp1 : ¬ T (yps T i + 1) = -1 := fun z => by rw [z] at w3; revert w3; decide
    rw [← h4] at hp0 hp1
    have in0 := yaT_in hp0
    have in1 := yaT_in hp1
    have t0 : I 2 (yps T i) = T (yps T i) := by
      have : yaT I n0 (yps T i) = I 2 (yps T i) := if_pos (by rw [h4] at in0; exact in0)
      rw [← this, h4]
    have t1 : I 2 (yps T i + 1) = T (yps T i + 1) := by
      have : yaT I n0 (yps T i + 1) = I 2 (yps T i + 1) := if_pos (by rw [h4] at in1; exact in1)
      rw [← this, h4]
    rw [h4] at in0 in1
    generalize hpe : yps T i = p at *
    have a1 : Int32.ofNat p + (1 : Int32) = Int32.ofNat (p + 1) := (Int32.ofNat_add p 1).symm
    have a2 : Int32.ofNat p + (2 : Int32) = Int32.ofNat (p + 2) := (Int32.ofNat_add p 2).symm
    have aL : Int32.ofNat p + Int32.ofNat (yaL (T p)) = Int32.ofNat (p + yaL (T p)) := (Int32.ofNat_add p _).symm
    have ai : Int32.ofNat i + (1 : Int32) = Int32.ofNat (i + 1) := (Int32.ofNat_add i 1).symm
    obtain ⟨I1, g0, g1⟩ := yc_actv (d := d) (J := J) (l := T p) (o1 := T (p + 1)) (o2 := if p + 2 < n0 then I 2 (p + 2) else -1) hn hc hq h2 (fun _ => by
      have e48 : ((48 : Int32)).toInt = 48 := by decide
      have h1 := w3.1
      have h2 := w3.2
      have := xt_sub (x := T (p + 1)) (y := 48) (by rw [e48]; omega) (by rw [e48]; omega)
      refine ⟨(T (p + 1) - 48).toInt.toNat, by omega, ?_⟩
      rw [xt_eq, xt_nat (by omega)]
      omega)
    have hV : yaV c (T p) (T (p + 1) - 48) (if (if p + 2 < n0 then I 2 (p + 2) else -1) = 45 then -1 else (if p + 2 < n0 then I 2 (p + 2) else -1) - 48) ↔ yaV c (T (yps T i)) (yaa T i) (yab2 T i) := by
      unfold yaa yab2
      rw [hpe]
      rcases yaL_r (x := T p) with z | z | z
      · omega
      · exact yaV_b z
      · have hp2 : ¬ yaT I n0 (p + 2) = -1 := fun y => by
          have e := w4 z
          rw [h4] at y
          rw [y] at e
          have em : ((-1 : Int32)).toInt = -1 := by decide
          exact e.elim (fun z => by have := z.1; omega) (fun z => by have := z.2; omega)
        have in2 := yaT_in hp2
        have t2 : I 2 (p + 2) = T (p + 2) := by
          have : yaT I n0 (p + 2) = I 2 (p + 2) := if_pos in2
          rw [← this, h4]
        rw [if_pos in2.1, t2]
    have f1 : I1 1 1 = Int32.ofNat n0 := (g1 1 1 (by decide) (by decide) (by decide) (by decide) (by decide) (by decide) (by decide) (by decide)).trans h3
    have f2 : ∀ x, I1 2 x = I 2 x := fun x => g1 2 x (by decide) (by decide) (by decide) (by decide) (by decide) (by decide) (by decide) (by omega)
    have st : qX7_year_h42 (d + 7) (Int32.ofNat i) (Int32.ofNat p) 1 (Int32.ofNat i) (I, J, R) = if yaV c (T (yps T i)) (yaa T i) (yab2 T i) then qX7_year_h42 (d + 7) (Int32.ofNat (i + 1)) (Int32.ofNat (p + yaL (T p))) 1 (Int32.ofNat (i + 1)) (I1, J, R) else qX7_year_h42 (d + 7) (Int32.ofNat i) (Int32.ofNat (p + yaL (T p))) 0 (Int32.ofNat (i + 1)) (I1, J, R) := by
      rw [qX7_year_h42_eq, if_neg (show ¬ (60 : Int32) ≤ Int32.ofNat i from fun z => by have := (xr_le (a := 60) (by omega) (by omega)).mp z; omega), if_neg (by decide), h3', if_neg (fun z => by have := (xr_le (by omega) (by omega)).mp z; omega), yc_at h3 hn0 (by omega), if_pos hp, xb_I1, a1, yc_at h3 hn0 (by omega), if_pos in1.1, xb_I1, a2, yc_at h3 hn0 (by omega), xb_I1, t0, t1, g0, xb_I1, yc_at f1 hn0 (by omega), if_pos hp, xb_I1, f2, t0, yc_signs, xb_I1, aL]
      by_cases hy : yaV c (T (yps T i)) (yaa T i) (yab2 T i)
      · rw [if_pos (hV.mpr hy), if_neg (by decide), if_pos hy, qX7_year_h124_eq, ai]
      · rw [if_neg (fun z => hy (hV.mp z)), if_pos rfl, if_neg hy, qX7_year_h124_eq, ai, Int32.add_zero]
    rw [st, yaN]
    by_cases hy : yaV c (T (yps T i)) (yaa T i) (yab2 T i)
    · have e4 : yaT I1 n0 = T := by
        rw [← h4]
        funext x
        unfold yaT
        rw [f2]
      have ep : yps T (i + 1) = p + yaL (T p) := by
        rw [yps, hpe]
      rw [if_pos hy, if_pos hy, ← ep]
      obtain ⟨I', v3, v4, v5, k0, k1⟩ := yc_h42 hn hc hq hn0 hv hK hK3 hKs m (i + 1) I1 (by omega) (ycF_cg h2 g1) f1 e4
      exact ⟨I', v3, v4, v5, k0, fun k j q1 q2 q3 q4 q5 q6 q7 q8 => (k1 k j q1 q2 q3 q4 q5 q6 q7 q8).trans (g1 k j q1 q2 q3 q4 q5 q6 q7 q8)⟩
    · rw [if_neg hy, if_neg hy]
      refine ⟨I1, Int32.ofNat (p + yaL (T p)), 0, Int32.ofNat (i + 1), ?_, g1⟩
      rw [qX7_year_h42_eq, if_neg (show ¬ (60 : Int32) ≤ Int32.ofNat (i + 1) from fun z => by have := (xr_le (a := 60) (by omega) (by omega)).mp z; omega), if_pos rfl]
theorem yar_inl {T : Nat → Int32} {n0 q : Nat} : ∀ (m p k : Nat), yar T n0 m p k = .inl q → q ≤ n0 + 2 := by
  intro m
  induction m with
  | zero =>
    intro p k h1
    rw [yar] at h1
    cases h1
  | succ m ih =>
    intro p k h1
    rw [yar] at h1
    by_cases hz : n0 ≤ p
    · rw [if_pos hz] at h1
      cases h1
    · rw [if_neg hz] at h1
      cases hf : yaf T p with
      | inl q' =>
        rw [hf] at h1
        cases h1
        unfold yaf at hf
        by_cases g1 : yaL (T p) = 1
        · rw [if_pos g1] at hf
          cases hf
          omega
        · rw [if_neg g1] at hf
          by_cases g2 : yaD (T (p + 1))
          · rw [if_neg (fun z => z g2)] at hf
            by_cases g3 : yaL (T p) = 2
            · rw [if_pos g3] at hf
              cases hf
            · rw [if_neg g3] at hf
              by_cases g4 : yaE (T p) (T (p + 2))
              · rw [if_neg (fun z => z g4)] at hf
                cases hf
              · rw [if_pos g4] at hf
                cases hf
                omega
          · rw [if_pos g2] at hf
            cases hf
            omega
      | inr q' =>
        rw [hf] at h1
        exact ih q' (k + 1) h1
/-- year() of the class -/
theorem yc_year {M : Nat} (hn : n ≤ 8) (hc : c ≤ 8) (hq : q ≤ 40) (hn0 : n0 ≤ 80) (h1 : I 1 1 = Int32.ofNat n0) (hF : ycF n c q I R) (h24 : I 24 1 = Int32.ofNat M) (hM : M < 12) : ∃ (I' : Nat → Nat → Int32) (J' : Nat → Nat → Int64), xq_D xqP (d + 8) 181 [.ref 0] (I, J, R) = some (some (.int (yaZ c n0 (yaT I n0))), I', J', R) ∧ I' 1 1 = 0 ∧ (∀ k j, ¬ (k = 1 ∧ j = 1) → ¬ k = 1 → ¬ k = 7 → ¬ k = 8 → ¬ k = 9 → ¬ k = 13 → ¬ k = 15 → ¬ k = 16 → ¬ k = 17 → ¬ k = 18 → ¬ k = 19 → ¬ k = 20 → ¬ k = 24 → ¬ (26 ≤ k ∧ k ≤ 61) → ¬ (k = 3 ∧ (j = 10 ∨ j = 11)) → ¬ (k = 78 ∧ j = 1) → I' k j = I k j) := by
  rw [qX7_year_eq, yc_fault (d := d + 5) h1 hn0, xb_I1]
  generalize hT : yaT I n0 = T
  cases hr : yar T n0 80 0 0 with
  | inl qf =>
    have hz : yaZ c n0 T = -1 - Int32.ofNat qf := by
      unfold yaZ
      rw [hr]
    have hb := yar_inl 80 0 0 hr
    have hne : ¬ yaR (.inl qf) = -1 := fun z => by
      have := congrArg Int32.toInt (show Int32.ofNat qf = -1 from z)
      rw [xt_nat (by omega)] at this
      have em : ((-1 : Int32)).toInt = -1 := by decide
      omega
    rw [if_neg hne, qX6_empty_eq, xb_V1, hz]
    exact ⟨_, _, rfl, xu_t, fun k j g _ _ _ _ _ _ _ _ _ _ _ _ _ _ _ => xq_upd_n g⟩
  | inr K =>
    have hz : yaZ c n0 T = Int32.ofNat (yaN c T K 0) := by
      unfold yaZ
      rw [hr]
    obtain ⟨-, hK, hv0⟩ := yar_inr 80 0 0 hr (by omega) rfl
    have hv : ∀ i, i < K → yps T i < n0 ∧ ∃ q, yaf T (yps T i) = .inr q := fun i hi => hv0 i (Nat.zero_le _) hi
    have hy2 := yps_2 (fun i hi => (hv i hi).2)
    have h60 : ∀ i, i < K → yps T i < 60 := by
      intro i hi
      obtain ⟨-, q, hq⟩ := hv i hi
      obtain ⟨-, w2, -⟩ := yaf_inr hq
      have hne : ¬ T (yps T i) = -1 := fun z => by rw [z] at w2; revert w2; decide
      rw [← hT] at hne
      have := (yaT_in hne).2
      rw [hT] at this
      exact this
    have hK3 : K ≤ 30 := by
      refine Decidable.byContradiction fun z => ?_
      have h1 := hy2 30 (by omega)
      have h2 := h60 30 (by omega)
      omega
    have hKs : yps T K ≤ 100 := by
      cases K with
      | zero => exact Nat.zero_le _
      | succ k =>
        have := h60 k (by omega)
        rw [yps]
        rcases yaL_r (x := T (yps T k)) with z | z | z <;> omega
    obtain ⟨I1, k0, k1⟩ := yc_cp18 (d := d + 6) (I := I) (J := J) (R := R)
    have f1 : ∀ k j, ¬ k = 18 → ¬ k = 19 → ¬ k = 20 → I1 k j = I k j := k1
    have hF1 : ycF n c q I1 R := ⟨(f1 3 7 (by decide) (by decide) (by decide)).trans hF.1, (f1 3 6 (by decide) (by decide) (by decide)).trans hF.2.1, (f1 10 4 (by decide) (by decide) (by decide)).trans hF.2.2.1, hF.2.2.2⟩
    have e4 : yaT I1 n0 = T := by
      rw [← hT]
      funext x
      unfold yaT
      rw [f1 2 x (by decide) (by decide) (by decide)]
    obtain ⟨I2, v3, v4, v5, m0, m1⟩ := yc_h42 (d := d) (J := J) hn hc hq hn0 hv hK hK3 hKs K 0 I1 (by omega) hF1 ((f1 1 1 (by decide) (by decide) (by decide)).trans h1) e4
    have m0' : qX7_year_h42 (d + 7) 0 0 1 0 (I1, J, R) = qX7_year_h132 (d + 7) (Int32.ofNat (yaN c T K 0)) v3 v4 v5 (I2, J, R) := m0
    have h24' : I2 24 1 = Int32.ofNat M := (m1 24 1 (by decide) (by decide) (by decide) (by decide) (by decide) (by decide) (by decide) (by decide)).trans ((f1 24 1 (by decide) (by decide) (by decide)).trans h24)
    obtain ⟨I3, J3, o0, o1, o2⟩ := yc_h132 (d := d + 5) (J := J) (R := R) (v := Int32.ofNat (yaN c T K 0)) (v3 := v3) (v4 := v4) (v5 := v5) h24' hM
    have eR : yaR (.inr K) = -1 := rfl
    rw [eR, if_pos rfl, k0, xb_V1, m0', hz]
    exact ⟨I3, J3, o0, o1, fun k j _ g1 g2 g3 g4 g5 g6 g7 g8 g9 g10 g11 g12 g13 g14 g15 => (o2 k j g13 g12 g1 g15).trans ((m1 k j g2 g3 g4 g5 g6 g7 g8 g14).trans (f1 k j g9 g10 g11))⟩
end YYG
