/-! THE RULE: product(), sum(), heldBy() -/
section YKC
variable {q n0 top stop : Nat} {I : Nat → Nat → Int32} {J : Nat → Nat → Int64} {Rr : Nat → Nat → Nat} {e : Nat → Int32}
theorem yk_up_s {f : Nat → Bool} {i : Nat} {v : Bool} : yk_up f i v i = v := if_pos rfl
theorem yk_up_n {f : Nat → Bool} {i j : Nat} {v : Bool} (h : ¬ j = i) : yk_up f i v j = f j := if_neg h
/-- an operator behind a thing -/
theorem yk_op {T : Nat → Int32} {p dp : Nat} {Q : yk_Q} {b : Nat} {V W : List Int32} {v : Int32} (hb : yk_bd (T p) = b) (hb0 : 1 ≤ b) (hb4 : b ≤ 3) (h1 : Q.1 = false) (h2 : Q.2.1 = dp) (hc : ¬ (b = 1 ∧ Q.2.2.1 dp = true)) (hf : yk_fl b Q.2.2.2.2.2 Q.2.2.2.2.1 = (W, v :: V)) : yk_1 e (T p) Q = some (true, dp, yk_up Q.2.2.1 dp (Q.2.2.1 dp || b == 1), 0, v :: V, T p :: W) := by
  obtain ⟨due, dq, cm, dg, V1, W1⟩ := Q
  have h1 : due = false := h1
  have h2 : dq = dp := h2
  subst h1
  subst h2
  have hf : yk_fl b W1 V1 = (W, v :: V) := hf
  have hc : ¬ (b = 1 ∧ cm dq = true) := hc
  have nd : ¬ (48 ≤ (T p).toInt ∧ (T p).toInt ≤ 57) := by
    intro z
    have g : ∀ k : Nat, k < 10 → yk_bd (Int32.ofNat (48 + k)) = 0 := by decide
    have e9 : T p = Int32.ofNat (48 + ((T p).toInt - 48).toNat) := by
      rw [xt_eq, xt_nat (by omega)]
      omega
    rw [e9, g _ (by omega)] at hb
    omega
  have n41 : ¬ T p = 41 := by
    intro z
    rw [z, show yk_bd 41 = 0 by decide] at hb
    omega
  unfold yk_1
  dsimp only
  rw [if_neg nd, if_neg n41, hb, if_neg (fun z => z.elim (fun z => by omega) hc), hf]
theorem yk_prod (hH : yk_H I Rr q n0 top) (hst : stop = if top < n0 then top else n0) {m : Nat} (hT : ∀ d dp p cm dg V W, stop - p ≤ m → p ≤ stop → dp ≤ 4 → yk_C e (yk_t I q n0 top) n0 stop I J Rr 292 4 (d + (4 * m + 8)) dp p (true, dp, cm, dg, V, W)) : ∀ d dp p cm dg V W, stop - p ≤ m → p ≤ stop → dp ≤ 4 → yk_st 3 W → yk_C e (yk_t I q n0 top) n0 stop I J Rr 265 3 (d + (4 * m + 9)) dp p (true, dp, cm, dg, V, W) := by
  intro d dp p cm dg V W hm hp hdp hW
  have hst76 : stop ≤ 76 := by
    have := hH.2.2.2.2.1
    rw [hst]
    split <;> omega
  -- the loop
  have loop : ∀ (k p1 : Nat) (v : Int32) (Q : yk_Q), stop - p1 ≤ k → k ≤ m → p1 ≤ stop → Q.1 = false → Q.2.1 = dp → (∀ j, j < dp → Q.2.2.1 j = cm j) → Q.2.2.1 dp = cm dp → yk_fl 3 Q.2.2.2.2.2 Q.2.2.2.2.1 = (W, v :: V) → yk_F4 (yk_t I q n0 top) p1 Q → ∃ v' p' w, qX8_product_h6 (d + (4 * m + 8)) (Int32.ofNat dp) v (pI I p1 (-1), J, Rr) = some (some (.int v'), pI I p' w, J, Rr) ∧ p1 ≤ p' ∧ p' ≤ stop ∧ ((w = Int32.ofNat p' ∧ yk_o e (yk_t I q n0 top) n0 stop p1 Q = .inl p') ∨ (w = -1 ∧ ∃ Q', yk_o e (yk_t I q n0 top) n0 stop p1 Q = yk_o e (yk_t I q n0 top) n0 stop p' Q' ∧ Q'.1 = false ∧ Q'.2.1 = dp ∧ (∀ j, j < dp → Q'.2.2.1 j = cm j) ∧ (3 ≠ 1 → Q'.2.2.1 dp = cm dp) ∧ yk_fl 3 Q'.2.2.2.2.2 Q'.2.2.2.2.1 = (W, v' :: V) ∧ yk_F3 (yk_t I q n0 top) p' Q')) := by
    intro k
    induction k with
    | zero =>
      intro p1 v Q hk hkm hp1 h1 h2 h3 h4 h5 h6
      have ht : yk_t I q n0 top p1 = -1 := yk_m1 hst (by omega)
      refine ⟨v, p1, -1, ?_, Nat.le_refl _, hp1, Or.inr ⟨rfl, Q, rfl, h1, h2, h3, fun _ => h4, h5, h6, by rw [ht]; decide, by rw [ht]; decide⟩⟩
      rw [qX8_product_h6_eq, show d + (4 * m + 8) = (d + (4 * m + 7)) + 1 by omega, yk_fine, xb_I1, if_pos rfl, if_neg (by decide), yk_here hH (by omega), xb_I1, ht, if_neg (by decide), yk_here hH (by omega), xb_I1, ht, if_pos (by decide)]
    | succ k ih =>
      intro p1 v Q hk hkm hp1 h1 h2 h3 h4 h5 h6
      by_cases hop : yk_t I q n0 top p1 = 42 ∨ yk_t I q n0 top p1 = 47
      · have hps : p1 < stop := by
          refine yk_lt (I := I) (q := q) hst (p := p1) ?_
          rcases hop with z | z <;> rw [z] <;> decide
        have hb : yk_bd (yk_t I q n0 top p1) = 3 := by
          rcases hop with z | z <;> rw [z] <;> decide
        have ho := yk_o_s (e := e) (T := yk_t I q n0 top) (n0 := n0) hps (yk_op (e := e) (T := yk_t I q n0 top) (p := p1) hb (by decide) (by decide) h1 h2 (fun z => absurd z.1 (by decide)) h5)
        obtain ⟨o, p2, w, g1, g2, g3, g4⟩ := hT d dp (p1 + 1) (yk_up Q.2.2.1 dp (Q.2.2.1 dp || 3 == 1)) 0 (v :: V) (yk_t I q n0 top p1 :: W) (by omega) (by omega) hdp
        have eu : xq_upd (pI I p1 (-1), J, Rr).1 94 15 (Int32.ofNat (p1 + 1)) = pI I (p1 + 1) (-1) := pI15
        have e15 : (pI I p1 (-1), J, Rr).1 94 15 + 1 = Int32.ofNat (p1 + 1) := (Int32.ofNat_add p1 1).symm
        -- the exact step
        have hstep : qX8_product_h6 (d + (4 * m + 8)) (Int32.ofNat dp) v (pI I p1 (-1), J, Rr) = qX8_product_h6 (d + (4 * m + 8)) (Int32.ofNat dp) (yk_bin (yk_t I q n0 top p1) v o) (pI I p2 w, J, Rr) := by
          rw [qX8_product_h6_eq, show d + (4 * m + 8) = (d + (4 * m + 7)) + 1 by omega, yk_fine, xb_I1, if_pos rfl, if_neg (by decide), yk_here hH (by omega), xb_I1]
          rcases hop with z | z
          · rw [z, if_pos rfl, qX8_product_h31_eq, yk_here hH (by omega), xb_I1, z, if_neg (fun z => z rfl), qX8_product_h45_eq, e15, eu]
            rw [show d + (4 * m + 7) + 1 = d + (4 * m + 8) by omega, g1, xb_I1, if_neg (by decide), qX8_product_h87a_eq]
            rfl
          · rw [z, if_neg (by decide), yk_here hH (by omega), xb_I1, z, if_neg (fun z => z rfl), qX8_product_h31_eq, yk_here hH (by omega), xb_I1, z, if_pos (by decide), qX8_product_h45_eq, e15, eu]
            rw [show d + (4 * m + 7) + 1 = d + (4 * m + 8) by omega, g1, xb_I1, if_pos rfl]
            have eb : yk_bin 47 v o = if o = 0 then 0 else v / o := by
              unfold yk_bin
              rw [if_neg (by decide), if_neg (by decide), if_neg (by decide), if_neg (by decide), if_neg (by decide), if_neg (by decide)]
            rw [eb]
            by_cases z0 : o = 0
            · rw [if_neg (fun z => z z0), if_pos z0, qX8_product_h87a_eq]
            · rw [if_pos z0, if_neg z0, if_neg z0, qX8_product_h87_eq]
        rw [hstep]
        rcases g4 with ⟨a1, a2⟩ | ⟨a1, Q', a2, a3, a4, a5, a6, a7, a8⟩
        · subst a1
          refine ⟨yk_bin (yk_t I q n0 top p1) v o, p2, _, ?_, by omega, g3, Or.inl ⟨rfl, ho.trans a2⟩⟩
          rw [qX8_product_h6_eq, show d + (4 * m + 8) = (d + (4 * m + 7)) + 1 by omega, yk_fine, xb_I1, if_neg (xr_ne1 (by omega)), if_pos rfl]
        · subst a1
          have a7 : yk_fl 4 Q'.2.2.2.2.2 Q'.2.2.2.2.1 = yk_fl 4 (yk_t I q n0 top p1 :: W) (o :: v :: V) := a7
          have a9 : yk_fl 3 Q'.2.2.2.2.2 Q'.2.2.2.2.1 = (W, yk_bin (yk_t I q n0 top p1) v o :: V) := by
            rw [← yk_fl_fl (show 3 ≤ 4 by decide), a7, yk_fl_fl (show 3 ≤ 4 by decide), yk_fl_c, if_pos (by omega)]
            have e9 : yk_app (yk_t I q n0 top p1) (o :: v :: V) = yk_bin (yk_t I q n0 top p1) v o :: V := by
              unfold yk_app
              rw [if_neg (by rcases hop with z | z <;> rw [z] <;> decide)]
            rw [e9, yk_st_fl hW]
          have c1 : ∀ j, j < dp → Q'.2.2.1 j = cm j := fun j hj => by
            rw [a5 j hj, ← h3 j hj]
            exact yk_up_n (by omega)
          have c2 : Q'.2.2.1 dp = cm dp := by
            rw [a6 (by decide), ← h4]
            show yk_up Q.2.2.1 dp (Q.2.2.1 dp || 3 == 1) dp = _
            rw [yk_up_s]
            simp
          obtain ⟨v', p', w', b1, b2, b3, b4⟩ := ih p2 (yk_bin (yk_t I q n0 top p1) v o) Q' (by omega) (by omega) g3 a3 a4 c1 c2 a9 a8
          refine ⟨v', p', w', b1, by omega, b3, ?_⟩
          rcases b4 with ⟨x1, x2⟩ | ⟨x1, Q2, x2, x3⟩
          · exact Or.inl ⟨x1, (ho.trans a2).trans x2⟩
          · exact Or.inr ⟨x1, Q2, (ho.trans a2).trans x2, x3⟩
      · refine ⟨v, p1, -1, ?_, Nat.le_refl _, hp1, Or.inr ⟨rfl, Q, rfl, h1, h2, h3, fun _ => h4, h5, h6, fun z => hop (Or.inl z), fun z => hop (Or.inr z)⟩⟩
        rw [qX8_product_h6_eq, show d + (4 * m + 8) = (d + (4 * m + 7)) + 1 by omega, yk_fine, xb_I1, if_pos rfl, if_neg (by decide), yk_here hH (by omega), xb_I1, if_neg (fun z => hop (Or.inl z)), yk_here hH (by omega), xb_I1, if_pos (fun z => hop (Or.inr z))]
  obtain ⟨v, p1, w, g1, g2, g3, g4⟩ := hT d dp p cm dg V W hm hp hdp
  show ∃ v p' w, xq_D xqP ((d + (4 * m + 8)) + 1) 265 _ _ = _ ∧ _
  rw [qX8_product_eq, g1, xb_I1]
  rcases g4 with ⟨a1, a2⟩ | ⟨a1, Q', a2, a3, a4, a5, a6, a7, a8⟩
  · subst a1
    refine ⟨v, p1, _, ?_, g2, g3, Or.inl ⟨rfl, a2⟩⟩
    rw [qX8_product_h6_eq, show d + (4 * m + 8) = (d + (4 * m + 7)) + 1 by omega, yk_fine, xb_I1, if_neg (xr_ne1 (by omega)), if_pos rfl]
  · subst a1
    have a7 : yk_fl 4 Q'.2.2.2.2.2 Q'.2.2.2.2.1 = yk_fl 4 W (v :: V) := a7
    have a9 : yk_fl 3 Q'.2.2.2.2.2 Q'.2.2.2.2.1 = (W, v :: V) := by
      rw [← yk_fl_fl (show 3 ≤ 4 by decide), a7, yk_fl_fl (show 3 ≤ 4 by decide), yk_st_fl hW]
    obtain ⟨v', p', w', b1, b2, b3, b4⟩ := loop (stop - p1) p1 v Q' (Nat.le_refl _) (by omega) g3 a3 a4 a5 (a6 (by decide)) a9 a8
    refine ⟨v', p', w', b1, by omega, b3, ?_⟩
    rcases b4 with ⟨x1, x2⟩ | ⟨x1, Q2, x2, x3, x4, x5, x6, x7, x8⟩
    · exact Or.inl ⟨x1, a2.trans x2⟩
    · refine Or.inr ⟨x1, Q2, a2.trans x2, x3, x4, x5, x6, ?_, x8⟩
      show yk_fl 3 Q2.2.2.2.2.2 Q2.2.2.2.2.1 = yk_fl 3 W (v' :: V)
      rw [x7, yk_st_fl hW]
theorem yk_sum (hH : yk_H I Rr q n0 top) (hst : stop = if top < n0 then top else n0) {m : Nat} (hT : ∀ d dp p cm dg V W, stop - p ≤ m → p ≤ stop → dp ≤ 4 → yk_st 3 W → yk_C e (yk_t I q n0 top) n0 stop I J Rr 265 3 (d + (4 * m + 9)) dp p (true, dp, cm, dg, V, W)) : ∀ d dp p cm dg V W, stop - p ≤ m → p ≤ stop → dp ≤ 4 → yk_st 2 W → yk_C e (yk_t I q n0 top) n0 stop I J Rr 284 2 (d + (4 * m + 10)) dp p (true, dp, cm, dg, V, W) := by
  intro d dp p cm dg V W hm hp hdp hW
  have hst76 : stop ≤ 76 := by
    have := hH.2.2.2.2.1
    rw [hst]
    split <;> omega
  have loop : ∀ (k p1 : Nat) (v : Int32) (Q : yk_Q), stop - p1 ≤ k → k ≤ m → p1 ≤ stop → Q.1 = false → Q.2.1 = dp → (∀ j, j < dp → Q.2.2.1 j = cm j) → Q.2.2.1 dp = cm dp → yk_fl 2 Q.2.2.2.2.2 Q.2.2.2.2.1 = (W, v :: V) → yk_F3 (yk_t I q n0 top) p1 Q → ∃ v' p' w, qX8_sum_h6 (d + (4 * m + 9)) (Int32.ofNat dp) v (pI I p1 (-1), J, Rr) = some (some (.int v'), pI I p' w, J, Rr) ∧ p1 ≤ p' ∧ p' ≤ stop ∧ ((w = Int32.ofNat p' ∧ yk_o e (yk_t I q n0 top) n0 stop p1 Q = .inl p') ∨ (w = -1 ∧ ∃ Q', yk_o e (yk_t I q n0 top) n0 stop p1 Q = yk_o e (yk_t I q n0 top) n0 stop p' Q' ∧ Q'.1 = false ∧ Q'.2.1 = dp ∧ (∀ j, j < dp → Q'.2.2.1 j = cm j) ∧ (2 ≠ 1 → Q'.2.2.1 dp = cm dp) ∧ yk_fl 2 Q'.2.2.2.2.2 Q'.2.2.2.2.1 = (W, v' :: V) ∧ yk_F2 (yk_t I q n0 top) p' Q')) := by
    intro k
    induction k with
    | zero =>
      intro p1 v Q hk hkm hp1 h1 h2 h3 h4 h5 h6
      have ht : yk_t I q n0 top p1 = -1 := yk_m1 hst (by omega)
      refine ⟨v, p1, -1, ?_, Nat.le_refl _, hp1, Or.inr ⟨rfl, Q, rfl, h1, h2, h3, fun _ => h4, h5, h6, by rw [ht]; decide, by rw [ht]; decide⟩⟩
      rw [qX8_sum_h6_eq, show d + (4 * m + 9) = (d + (4 * m + 8)) + 1 by omega, yk_fine, xb_I1, if_pos rfl, if_neg (by decide), yk_here hH (by omega), xb_I1, ht, if_neg (by decide), yk_here hH (by omega), xb_I1, ht, if_pos (by decide)]
    | succ k ih =>
      intro p1 v Q hk hkm hp1 h1 h2 h3 h4 h5 h6
      by_cases hop : yk_t I q n0 top p1 = 43 ∨ yk_t I q n0 top p1 = 45
      · have hps : p1 < stop := by
          refine yk_lt (I := I) (q := q) hst (p := p1) ?_
          rcases hop with z | z <;> rw [z] <;> decide
        have hb : yk_bd (yk_t I q n0 top p1) = 2 := by
          rcases hop with z | z <;> rw [z] <;> decide
        have ho := yk_o_s (e := e) (T := yk_t I q n0 top) (n0 := n0) hps (yk_op (e := e) (T := yk_t I q n0 top) (p := p1) hb (by decide) (by decide) h1 h2 (fun z => absurd z.1 (by decide)) h5)
        obtain ⟨o, p2, w, g1, g2, g3, g4⟩ := hT d dp (p1 + 1) (yk_up Q.2.2.1 dp (Q.2.2.1 dp || 2 == 1)) 0 (v :: V) (yk_t I q n0 top p1 :: W) (by omega) (by omega) hdp (by show yk_bd (yk_t I q n0 top p1) < 3; omega)
        have eu : xq_upd (pI I p1 (-1), J, Rr).1 94 15 (Int32.ofNat (p1 + 1)) = pI I (p1 + 1) (-1) := pI15
        have e15 : (pI I p1 (-1), J, Rr).1 94 15 + 1 = Int32.ofNat (p1 + 1) := (Int32.ofNat_add p1 1).symm
        have hstep : qX8_sum_h6 (d + (4 * m + 9)) (Int32.ofNat dp) v (pI I p1 (-1), J, Rr) = qX8_sum_h6 (d + (4 * m + 9)) (Int32.ofNat dp) (yk_bin (yk_t I q n0 top p1) v o) (pI I p2 w, J, Rr) := by
          rw [qX8_sum_h6_eq, show d + (4 * m + 9) = (d + (4 * m + 8)) + 1 by omega, yk_fine, xb_I1, if_pos rfl, if_neg (by decide), yk_here hH (by omega), xb_I1]
          rcases hop with z | z
          · rw [z, if_pos rfl, qX8_sum_h31_eq, yk_here hH (by omega), xb_I1, z, if_neg (fun z => z rfl), qX8_sum_h45_eq, e15, eu]
            rw [show d + (4 * m + 8) + 1 = d + (4 * m + 9) by omega, g1, xb_I1, if_neg (by decide), qX8_sum_h78_eq]
            rfl
          · rw [z, if_neg (by decide), yk_here hH (by omega), xb_I1, z, if_neg (fun z => z rfl), qX8_sum_h31_eq, yk_here hH (by omega), xb_I1, z, if_pos (by decide), qX8_sum_h45_eq, e15, eu]
            rw [show d + (4 * m + 8) + 1 = d + (4 * m + 9) by omega, g1, xb_I1, if_pos rfl, qX8_sum_h78_eq]
            rfl
        rw [hstep]
        rcases g4 with ⟨a1, a2⟩ | ⟨a1, Q', a2, a3, a4, a5, a6, a7, a8⟩
        · subst a1
          refine ⟨yk_bin (yk_t I q n0 top p1) v o, p2, _, ?_, by omega, g3, Or.inl ⟨rfl, ho.trans a2⟩⟩
          rw [qX8_sum_h6_eq, show d + (4 * m + 9) = (d + (4 * m + 8)) + 1 by omega, yk_fine, xb_I1, if_neg (xr_ne1 (by omega)), if_pos rfl]
        · subst a1
          have a7 : yk_fl 3 Q'.2.2.2.2.2 Q'.2.2.2.2.1 = yk_fl 3 (yk_t I q n0 top p1 :: W) (o :: v :: V) := a7
          have a9 : yk_fl 2 Q'.2.2.2.2.2 Q'.2.2.2.2.1 = (W, yk_bin (yk_t I q n0 top p1) v o :: V) := by
            rw [← yk_fl_fl (show 2 ≤ 3 by decide), a7, yk_fl_fl (show 2 ≤ 3 by decide), yk_fl_c, if_pos (by omega)]
            have e9 : yk_app (yk_t I q n0 top p1) (o :: v :: V) = yk_bin (yk_t I q n0 top p1) v o :: V := by
              unfold yk_app
              rw [if_neg (by rcases hop with z | z <;> rw [z] <;> decide)]
            rw [e9, yk_st_fl hW]
          have c1 : ∀ j, j < dp → Q'.2.2.1 j = cm j := fun j hj => by
            rw [a5 j hj, ← h3 j hj]
            exact yk_up_n (by omega)
          have c2 : Q'.2.2.1 dp = cm dp := by
            rw [a6 (by decide), ← h4]
            show yk_up Q.2.2.1 dp (Q.2.2.1 dp || 2 == 1) dp = _
            rw [yk_up_s]
            simp
          obtain ⟨v', p', w', b1, b2, b3, b4⟩ := ih p2 (yk_bin (yk_t I q n0 top p1) v o) Q' (by omega) (by omega) g3 a3 a4 c1 c2 a9 a8
          refine ⟨v', p', w', b1, by omega, b3, ?_⟩
          rcases b4 with ⟨x1, x2⟩ | ⟨x1, Q2, x2, x3⟩
          · exact Or.inl ⟨x1, (ho.trans a2).trans x2⟩
          · exact Or.inr ⟨x1, Q2, (ho.trans a2).trans x2, x3⟩
      · refine ⟨v, p1, -1, ?_, Nat.le_refl _, hp1, Or.inr ⟨rfl, Q, rfl, h1, h2, h3, fun _ => h4, h5, h6, fun z => hop (Or.inl z), fun z => hop (Or.inr z)⟩⟩
        rw [qX8_sum_h6_eq, show d + (4 * m + 9) = (d + (4 * m + 8)) + 1 by omega, yk_fine, xb_I1, if_pos rfl, if_neg (by decide), yk_here hH (by omega), xb_I1, if_neg (fun z => hop (Or.inl z)), yk_here hH (by omega), xb_I1, if_pos (fun z => hop (Or.inr z))]
  obtain ⟨v, p1, w, g1, g2, g3, g4⟩ := hT d dp p cm dg V W hm hp hdp (yk_st_le hW (by decide))
  show ∃ v p' w, xq_D xqP ((d + (4 * m + 9)) + 1) 284 _ _ = _ ∧ _
  rw [qX8_sum_eq, g1, xb_I1]
  rcases g4 with ⟨a1, a2⟩ | ⟨a1, Q', a2, a3, a4, a5, a6, a7, a8⟩
  · subst a1
    refine ⟨v, p1, _, ?_, g2, g3, Or.inl ⟨rfl, a2⟩⟩
    rw [qX8_sum_h6_eq, show d + (4 * m + 9) = (d + (4 * m + 8)) + 1 by omega, yk_fine, xb_I1, if_neg (xr_ne1 (by omega)), if_pos rfl]
  · subst a1
    have a7 : yk_fl 3 Q'.2.2.2.2.2 Q'.2.2.2.2.1 = yk_fl 3 W (v :: V) := a7
    have a9 : yk_fl 2 Q'.2.2.2.2.2 Q'.2.2.2.2.1 = (W, v :: V) := by
      rw [← yk_fl_fl (show 2 ≤ 3 by decide), a7, yk_fl_fl (show 2 ≤ 3 by decide), yk_st_fl hW]
    obtain ⟨v', p', w', b1, b2, b3, b4⟩ := loop (stop - p1) p1 v Q' (Nat.le_refl _) (by omega) g3 a3 a4 a5 (a6 (by decide)) a9 a8
    refine ⟨v', p', w', b1, by omega, b3, ?_⟩
    rcases b4 with ⟨x1, x2⟩ | ⟨x1, Q2, x2, x3, x4, x5, x6, x7, x8⟩
    · exact Or.inl ⟨x1, a2.trans x2⟩
    · refine Or.inr ⟨x1, Q2, a2.trans x2, x3, x4, x5, x6, ?_, x8⟩
      show yk_fl 2 Q2.2.2.2.2.2 Q2.2.2.2.2.1 = yk_fl 2 W (v' :: V)
      rw [x7, yk_st_fl hW]
theorem yk_held (hH : yk_H I Rr q n0 top) (hst : stop = if top < n0 then top else n0) {m : Nat} (hT : ∀ d dp p cm dg V W, stop - p ≤ m → p ≤ stop → dp ≤ 4 → yk_st 2 W → yk_C e (yk_t I q n0 top) n0 stop I J Rr 284 2 (d + (4 * m + 10)) dp p (true, dp, cm, dg, V, W)) : ∀ d dp p cm dg V W, stop - p ≤ m → p ≤ stop → dp ≤ 4 → yk_st 1 W → cm dp = false → yk_C e (yk_t I q n0 top) n0 stop I J Rr 229 1 (d + (4 * m + 11)) dp p (true, dp, cm, dg, V, W) := by
  intro d dp p cm dg V W hm hp hdp hW hcm
  have hst76 : stop ≤ 76 := by
    have := hH.2.2.2.2.1
    rw [hst]
    split <;> omega
  obtain ⟨v, p1, w, g1, g2, g3, g4⟩ := hT d dp p cm dg V W hm hp hdp (yk_st_le hW (by decide))
  show ∃ v p' w, xq_D xqP ((d + (4 * m + 10)) + 1) 229 _ _ = _ ∧ _
  rw [qX8_heldBy_eq, g1, xb_I1, show d + (4 * m + 10) = (d + (4 * m + 8)) + 2 by omega]
  rcases g4 with ⟨a1, a2⟩ | ⟨a1, Q', a2, a3, a4, a5, a6, a7, a8⟩
  · subst a1
    have hn := xr_ne1 (a := p1) (by omega)
    rw [yk_pass0 hn, xb_I1, if_pos rfl, yk_pass0 hn, xb_I1, if_pos rfl, yk_pass0 hn, xb_I1, if_pos rfl]
    exact ⟨v, p1, _, rfl, g2, g3, Or.inl ⟨rfl, a2⟩⟩
  · subst a1
    have a7 : yk_fl 2 Q'.2.2.2.2.2 Q'.2.2.2.2.1 = yk_fl 2 W (v :: V) := a7
    have a9 : yk_fl 1 Q'.2.2.2.2.2 Q'.2.2.2.2.1 = (W, v :: V) := by
      rw [← yk_fl_fl (show 1 ≤ 2 by decide), a7, yk_fl_fl (show 1 ≤ 2 by decide), yk_st_fl hW]
    have c1 : ∀ j, j < dp → Q'.2.2.1 j = cm j := a5
    have c2 : Q'.2.2.1 dp = false := (a6 (by decide)).trans hcm
    -- a comparison
    have cmp : ∀ s, yk_t I q n0 top p1 = s → (s = 60 ∨ s = 62 ∨ s = 61) → ∃ o p2 w2, xq_D xqP (d + (4 * m + 8) + 2) 284 [.ref 94, .int (Int32.ofNat dp)] (pI I (p1 + 1) (-1), J, Rr) = some (some (.int o), pI I p2 w2, J, Rr) ∧ p1 ≤ p2 ∧ p2 ≤ stop ∧ ((w2 = Int32.ofNat p2 ∧ yk_o e (yk_t I q n0 top) n0 stop p (true, dp, cm, dg, V, W) = .inl p2) ∨ (w2 = -1 ∧ ∃ Q2, yk_o e (yk_t I q n0 top) n0 stop p (true, dp, cm, dg, V, W) = yk_o e (yk_t I q n0 top) n0 stop p2 Q2 ∧ Q2.1 = false ∧ Q2.2.1 = dp ∧ (∀ j, j < dp → Q2.2.2.1 j = cm j) ∧ yk_fl 1 Q2.2.2.2.2.2 Q2.2.2.2.2.1 = yk_fl 1 W (yk_bin s v o :: V) ∧ yk_F1 (yk_t I q n0 top) p2 Q2)) := by
      intro s hs hop
      have hps : p1 < stop := by
        refine yk_lt (I := I) (q := q) hst (p := p1) ?_
        rw [hs]
        rcases hop with z | z | z <;> rw [z] <;> decide
      have hb : yk_bd (yk_t I q n0 top p1) = 1 := by
        rw [hs]
        rcases hop with z | z | z <;> rw [z] <;> decide
      have ho := yk_o_s (e := e) (T := yk_t I q n0 top) (n0 := n0) hps (yk_op (e := e) (T := yk_t I q n0 top) (p := p1) hb (by decide) (by decide) a3 a4 (fun z => by rw [c2] at z; exact absurd z.2 (by decide)) a9)
      obtain ⟨m', rfl⟩ : ∃ m', m = m' + 1 := ⟨m - 1, by omega⟩
      obtain ⟨o, p2, w2, b1, b2, b3, b4⟩ := hT d dp (p1 + 1) (yk_up Q'.2.2.1 dp (Q'.2.2.1 dp || 1 == 1)) 0 (v :: V) (yk_t I q n0 top p1 :: W) (by omega) (by omega) hdp (by show yk_bd (yk_t I q n0 top p1) < 2; omega)
      refine ⟨o, p2, w2, b1, by omega, b3, ?_⟩
      · rcases b4 with ⟨x1, x2⟩ | ⟨x1, Q2, x2, x3, x4, x5, x6, x7, x8⟩
        · exact Or.inl ⟨x1, (a2.trans ho).trans x2⟩
        · have x7 : yk_fl 2 Q2.2.2.2.2.2 Q2.2.2.2.2.1 = yk_fl 2 (yk_t I q n0 top p1 :: W) (o :: v :: V) := x7
          refine Or.inr ⟨x1, Q2, (a2.trans ho).trans x2, x3, x4, fun j hj => ?_, ?_, x8, Or.inl ?_⟩
          · rw [x5 j hj, ← c1 j hj]
            exact yk_up_n (by omega)
          · rw [← yk_fl_fl (show 1 ≤ 2 by decide), x7, yk_fl_fl (show 1 ≤ 2 by decide), yk_fl_c, if_pos (by omega)]
            have e9 : yk_app (yk_t I q n0 top p1) (o :: v :: V) = yk_bin (yk_t I q n0 top p1) v o :: V := by
              unfold yk_app
              rw [if_neg (by rw [hs]; rcases hop with z | z | z <;> rw [z] <;> decide)]
            rw [e9, hs]
          · rw [x4, x6 (by decide)]
            show yk_up Q'.2.2.1 dp (Q'.2.2.1 dp || 1 == 1) dp = true
            rw [yk_up_s]
            simp
    have fin : ∀ (s r o : Int32) (p2 : Nat) (w2 : Int32), r = yk_bin s v o → p1 ≤ p2 → p2 ≤ stop → ((w2 = Int32.ofNat p2 ∧ yk_o e (yk_t I q n0 top) n0 stop p (true, dp, cm, dg, V, W) = .inl p2) ∨ (w2 = -1 ∧ ∃ Q2, yk_o e (yk_t I q n0 top) n0 stop p (true, dp, cm, dg, V, W) = yk_o e (yk_t I q n0 top) n0 stop p2 Q2 ∧ Q2.1 = false ∧ Q2.2.1 = dp ∧ (∀ j, j < dp → Q2.2.2.1 j = cm j) ∧ yk_fl 1 Q2.2.2.2.2.2 Q2.2.2.2.2.1 = yk_fl 1 W (yk_bin s v o :: V) ∧ yk_F1 (yk_t I q n0 top) p2 Q2)) → ∃ v' p' w, some (some (Value.int r), pI I p2 w2, J, Rr) = some (some (.int v'), pI I p' w, J, Rr) ∧ p ≤ p' ∧ p' ≤ stop ∧ ((w = Int32.ofNat p' ∧ yk_o e (yk_t I q n0 top) n0 stop p (true, dp, cm, dg, V, W) = .inl p') ∨ (w = -1 ∧ ∃ Q', yk_o e (yk_t I q n0 top) n0 stop p (true, dp, cm, dg, V, W) = yk_o e (yk_t I q n0 top) n0 stop p' Q' ∧ Q'.1 = false ∧ Q'.2.1 = dp ∧ (∀ j, j < dp → Q'.2.2.1 j = cm j) ∧ (1 ≠ 1 → Q'.2.2.1 dp = cm dp) ∧ yk_fl 1 Q'.2.2.2.2.2 Q'.2.2.2.2.1 = yk_fl 1 W (v' :: V) ∧ yk_F 1 (yk_t I q n0 top) p' Q')) := by
      intro s r o p2 w2 hr h1 h2 h3
      refine ⟨r, p2, w2, rfl, by omega, h2, ?_⟩
      rcases h3 with x | ⟨x1, Q2, x2, x3, x4, x5, x6, x7⟩
      · exact Or.inl x
      · exact Or.inr ⟨x1, Q2, x2, x3, x4, x5, fun z => absurd rfl z, by rw [hr]; exact x6, x7⟩
    rw [yk_pass hH (by omega)]
    by_cases h60 : yk_t I q n0 top p1 = 60
    · obtain ⟨o, p2, w2, b1, b2, b3, b4⟩ := cmp 60 h60 (Or.inl rfl)
      rw [if_pos h60, xb_I1, if_neg (by decide), b1, xb_I1]
      have eb : yk_bin 60 v o = if v < o then 1 else 0 := by
        unfold yk_bin
        rw [if_neg (by decide), if_neg (by decide), if_neg (by decide), if_pos rfl]
      by_cases hc : o ≤ v
      · rw [if_pos hc]
        exact fin 60 0 o p2 w2 (by rw [eb, if_neg (Int32.not_lt.mpr hc)]) b2 b3 b4
      · rw [if_neg hc]
        exact fin 60 1 o p2 w2 (by rw [eb, if_pos (Int32.not_le.mp hc)]) b2 b3 b4
    · rw [if_neg h60, xb_I1, if_pos rfl, yk_pass hH (by omega)]
      by_cases h62 : yk_t I q n0 top p1 = 62
      · obtain ⟨o, p2, w2, b1, b2, b3, b4⟩ := cmp 62 h62 (Or.inr (Or.inl rfl))
        rw [if_pos h62, xb_I1, if_neg (by decide), b1, xb_I1]
        have eb : yk_bin 62 v o = if o < v then 1 else 0 := by
          unfold yk_bin
          rw [if_neg (by decide), if_neg (by decide), if_neg (by decide), if_neg (by decide), if_neg (by decide), if_pos rfl]
        by_cases hc : v ≤ o
        · rw [if_pos hc]
          exact fin 62 0 o p2 w2 (by rw [eb, if_neg (Int32.not_lt.mpr hc)]) b2 b3 b4
        · rw [if_neg hc]
          exact fin 62 1 o p2 w2 (by rw [eb, if_pos (Int32.not_le.mp hc)]) b2 b3 b4
      · rw [if_neg h62, xb_I1, if_pos rfl, yk_pass hH (by omega)]
        by_cases h61 : yk_t I q n0 top p1 = 61
        · obtain ⟨o, p2, w2, b1, b2, b3, b4⟩ := cmp 61 h61 (Or.inr (Or.inr rfl))
          rw [if_pos h61, xb_I1, if_neg (by decide), b1, xb_I1]
          have eb : yk_bin 61 v o = if v = o then 1 else 0 := by
            unfold yk_bin
            rw [if_neg (by decide), if_neg (by decide), if_neg (by decide), if_neg (by decide), if_pos rfl]
          by_cases hc : v = o
          · rw [if_neg (fun z => z hc)]
            exact fin 61 1 o p2 w2 (by rw [eb, if_pos hc]) b2 b3 b4
          · rw [if_pos hc]
            exact fin 61 0 o p2 w2 (by rw [eb, if_neg hc]) b2 b3 b4
        · rw [if_neg h61, xb_I1, if_pos rfl]
          refine ⟨v, p1, -1, rfl, g2, g3, Or.inr ⟨rfl, Q', a2, a3, a4, c1, fun z => absurd rfl z, ?_, a8, Or.inr ⟨h60, h61, h62⟩⟩⟩
          show yk_fl 1 Q'.2.2.2.2.2 Q'.2.2.2.2.1 = yk_fl 1 W (v :: V)
          rw [a9, yk_st_fl hW]
/-- heldBy(), whatever the text is -/
theorem yk_all (hH : yk_H I Rr q n0 top) (hst : stop = if top < n0 then top else n0) (he : ∀ i, i < 7 → e i = if I 94 21 = 0 then 0 else I 104 i) : ∀ m : Nat, (∀ d dp p cm dg V W, stop - p ≤ m → p ≤ stop → dp ≤ 4 → yk_C e (yk_t I q n0 top) n0 stop I J Rr 292 4 (d + (4 * m + 8)) dp p (true, dp, cm, dg, V, W)) ∧ (∀ d dp p cm dg V W, stop - p ≤ m → p ≤ stop → dp ≤ 4 → yk_st 1 W → cm dp = false → yk_C e (yk_t I q n0 top) n0 stop I J Rr 229 1 (d + (4 * m + 11)) dp p (true, dp, cm, dg, V, W)) := by
  intro m
  induction m with
  | zero =>
    have h1 := yk_thing (J := J) (m := 0) hH hst he (fun m' h => by omega) (fun m' h => by omega)
    exact ⟨h1, yk_held hH hst (yk_sum hH hst (yk_prod hH hst h1))⟩
  | succ m ih =>
    have h1 := yk_thing (J := J) (m := m + 1) hH hst he (fun m' h => by have := Nat.succ.inj h; subst this; exact ih.1) (fun m' h => by have := Nat.succ.inj h; subst this; exact ih.2)
    exact ⟨h1, yk_held hH hst (yk_sum hH hst (yk_prod hH hst h1))⟩
end YKC
