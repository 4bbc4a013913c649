/-! THE RULE: number(), thing() -/
def yk_F4 (T : Nat → Int32) (p : Nat) (Q : yk_Q) : Prop := ¬ (48 ≤ (T p).toInt ∧ (T p).toInt ≤ 57 ∧ 1 ≤ Q.2.2.2.1 ∧ Q.2.2.2.1 < 3)
def yk_F3 (T : Nat → Int32) (p : Nat) (Q : yk_Q) : Prop := yk_F4 T p Q ∧ ¬ T p = 42 ∧ ¬ T p = 47
def yk_F2 (T : Nat → Int32) (p : Nat) (Q : yk_Q) : Prop := yk_F3 T p Q ∧ ¬ T p = 43 ∧ ¬ T p = 45
def yk_F1 (T : Nat → Int32) (p : Nat) (Q : yk_Q) : Prop := yk_F2 T p Q ∧ (Q.2.2.1 Q.2.1 = true ∨ ¬ T p = 60 ∧ ¬ T p = 61 ∧ ¬ T p = 62)
def yk_F (b : Nat) (T : Nat → Int32) (p : Nat) (Q : yk_Q) : Prop := match b with
  | 1 => yk_F1 T p Q
  | 2 => yk_F2 T p Q
  | 3 => yk_F3 T p Q
  | _ => yk_F4 T p Q
theorem yk_F1_none {e T : Nat → Int32} {p : Nat} {Q : yk_Q} (h : yk_F1 T p Q) (hd : Q.1 = false) (h41 : ¬ T p = 41 ∨ Q.2.1 = 0) (hr : (T p).toInt ≤ 255) : yk_1 e (T p) Q = none := by
  obtain ⟨due, dp, cm, dg, V, W⟩ := Q
  have hd : due = false := hd
  subst hd
  obtain ⟨⟨⟨h4, h42, h47⟩, h43, h45⟩, hc⟩ := h
  have h4 : ¬ (48 ≤ (T p).toInt ∧ (T p).toInt ≤ 57 ∧ 1 ≤ dg ∧ dg < 3) := h4
  have hc : cm dp = true ∨ ¬ T p = 60 ∧ ¬ T p = 61 ∧ ¬ T p = 62 := hc
  have h41 : ¬ T p = 41 ∨ dp = 0 := h41
  have h256 : ¬ T p = 256 := by
    intro z
    rw [z] at hr
    exact absurd hr (by decide)
  unfold yk_1
  dsimp only
  by_cases g1 : 48 ≤ (T p).toInt ∧ (T p).toInt ≤ 57
  · rw [if_pos g1, if_neg (fun z => h4 ⟨g1.1, g1.2, z.1, z.2⟩)]
  · rw [if_neg g1]
    by_cases g2 : T p = 41
    · rw [if_pos g2, if_pos (h41.resolve_left (fun z => z g2))]
    · rw [if_neg g2, if_pos]
      unfold yk_bd
      by_cases g3 : T p = 60 ∨ T p = 61 ∨ T p = 62
      · rw [if_pos g3]
        exact Or.inr ⟨rfl, hc.resolve_right (fun z => by rcases g3 with q | q | q; exact z.1 q; exact z.2.1 q; exact z.2.2 q)⟩
      · rw [if_neg g3, if_neg (fun z => z.elim h43 h45), if_neg (fun z => z.elim h42 h47), if_neg h256]
        exact Or.inl rfl
def yk_C (e T : Nat → Int32) (n0 stop : Nat) (I : Nat → Nat → Int32) (J : Nat → Nat → Int64) (Rr : Nat → Nat → Nat) (mi b D dp p : Nat) (Q : yk_Q) : Prop := ∃ v p' w, xq_D xqP D mi [.ref 94, .int (Int32.ofNat dp)] (pI I p (-1), J, Rr) = some (some (.int v), pI I p' w, J, Rr) ∧ p ≤ p' ∧ p' ≤ stop ∧ ((w = Int32.ofNat p' ∧ yk_o e T n0 stop p Q = .inl p') ∨ (w = -1 ∧ ∃ Q', yk_o e T n0 stop p Q = yk_o e T n0 stop p' Q' ∧ Q'.1 = false ∧ Q'.2.1 = dp ∧ (∀ j, j < dp → Q'.2.2.1 j = Q.2.2.1 j) ∧ (b ≠ 1 → Q'.2.2.1 dp = Q.2.2.1 dp) ∧ yk_fl b Q'.2.2.2.2.2 Q'.2.2.2.2.1 = yk_fl b Q.2.2.2.2.2 (v :: Q.2.2.2.2.1) ∧ yk_F b T p' Q'))
theorem yk_ixl {s : Int32} : (∃ i, yk_ix s = some i ∧ i < 7 ∧ (if s = 104 then (0 : Int32) else if s = 116 then 1 else if s = 119 then 2 else if s = 109 then 3 else if s = 105 then 4 else if s = 110 then 5 else if s = 99 then 6 else -1) = Int32.ofNat i) ∨ (yk_ix s = none ∧ (if s = 104 then (0 : Int32) else if s = 116 then 1 else if s = 119 then 2 else if s = 109 then 3 else if s = 105 then 4 else if s = 110 then 5 else if s = 99 then 6 else -1) = -1) := by
  unfold yk_ix
  by_cases h0 : s = 104
  · exact Or.inl ⟨0, by rw [if_pos h0], by decide, by rw [if_pos h0]; rfl⟩
  rw [if_neg h0, if_neg h0]
  by_cases h1 : s = 116
  · exact Or.inl ⟨1, by rw [if_pos h1], by decide, by rw [if_pos h1]; rfl⟩
  rw [if_neg h1, if_neg h1]
  by_cases h2 : s = 119
  · exact Or.inl ⟨2, by rw [if_pos h2], by decide, by rw [if_pos h2]; rfl⟩
  rw [if_neg h2, if_neg h2]
  by_cases h3 : s = 109
  · exact Or.inl ⟨3, by rw [if_pos h3], by decide, by rw [if_pos h3]; rfl⟩
  rw [if_neg h3, if_neg h3]
  by_cases h4 : s = 105
  · exact Or.inl ⟨4, by rw [if_pos h4], by decide, by rw [if_pos h4]; rfl⟩
  rw [if_neg h4, if_neg h4]
  by_cases h5 : s = 110
  · exact Or.inl ⟨5, by rw [if_pos h5], by decide, by rw [if_pos h5]; rfl⟩
  rw [if_neg h5, if_neg h5]
  by_cases h6 : s = 99
  · exact Or.inl ⟨6, by rw [if_pos h6], by decide, by rw [if_pos h6]; rfl⟩
  rw [if_neg h6, if_neg h6]
  exact Or.inr ⟨rfl, rfl⟩
section PKB
variable {d q n0 top stop : Nat} {I : Nat → Nat → Int32} {J : Nat → Nat → Int64} {Rr : Nat → Nat → Nat} {e : Nat → Int32}
theorem yk_lt (hst : stop = if top < n0 then top else n0) {p : Nat} (h : 0 ≤ (yk_t I q n0 top p).toInt) : p < stop := by
  have := yk_ts h
  rw [hst]
  split <;> omega
theorem yk_m1 (hst : stop = if top < n0 then top else n0) {p : Nat} (h : stop ≤ p) : yk_t I q n0 top p = -1 := by
  refine if_neg ?_
  rw [hst] at h
  split at h <;> omega
theorem yk_numl (hH : yk_H I Rr q n0 top) (hst : stop = if top < n0 then top else n0) {dp : Nat} {cm : Nat → Bool} {V W : List Int32} : ∀ (k j p : Nat) (v : Int32), j + k = 3 → 1 ≤ j → p ≤ stop → ∃ v' p' j', qX8_number_h11 (d + 3) 3 v (Int32.ofNat j) (pI I p (-1), J, Rr) = some (some (.int v'), pI I p' (-1), J, Rr) ∧ p ≤ p' ∧ p' ≤ stop ∧ yk_o e (yk_t I q n0 top) n0 stop p (false, dp, cm, j, v :: V, W) = yk_o e (yk_t I q n0 top) n0 stop p' (false, dp, cm, j', v' :: V, W) ∧ yk_F4 (yk_t I q n0 top) p' (false, dp, cm, j', v' :: V, W)
  | 0, j, p, v, hj, hj1, hp => by
    have e3 : j = 3 := by omega
    subst e3
    refine ⟨v, p, 3, ?_, Nat.le_refl _, hp, rfl, ?_⟩
    · rw [qX8_number_h11_eq, if_pos (by decide)]
    · intro z
      exact absurd z.2.2.2 (by show ¬ 3 < 3; decide)
  | k + 1, j, p, v, hj, hj1, hp => by
    have hst76 : stop ≤ 76 := by
      have := hH.2.2.2.2.1
      rw [hst]
      split <;> omega
    have e48 : (48 : Int32).toInt = 48 := by decide
    have e57 : (57 : Int32).toInt = 57 := by decide
    have e58 : ((48 : Int32) + 10 - 1).toInt = 57 := by decide
    have hle : ¬ (3 : Int32) ≤ Int32.ofNat j := by
      intro z
      have := (xr_le (a := 3) (by omega) (by omega)).mp z
      omega
    rw [qX8_number_h11_eq, if_neg hle, yk_fine, xb_I1, if_pos rfl, if_neg (by decide), yk_here hH (by omega), xb_I1, xe_in, xb_I1, e48, e57]
    by_cases hx : 48 ≤ (yk_t I q n0 top p).toInt ∧ (yk_t I q n0 top p).toInt ≤ 57
    · have hps := yk_lt (I := I) (q := q) hst (p := p) (by omega)
      have a1 : Int32.ofNat j + (1 : Int32) = Int32.ofNat (j + 1) := (Int32.ofNat_add j 1).symm
      rw [if_pos hx, if_neg (by decide), yk_one hH (by omega) (by decide) (by decide), e48, e58, if_pos hx, xb_I1, a1]
      obtain ⟨v', p', j', h1, h2, h3, h4, h5⟩ := yk_numl hH hst k (j + 1) (p + 1) (10 * v + (yk_t I q n0 top p - 48)) (by omega) (by omega) (by omega)
      refine ⟨v', p', j', h1, by omega, h3, ?_, h5⟩
      rw [← h4]
      refine yk_o_s hps ?_
      unfold yk_1
      dsimp only
      rw [if_pos hx, if_pos (show 1 ≤ j ∧ j < 3 by omega), show v * 10 = 10 * v from Int32.mul_comm v 10]
    · rw [if_neg hx, if_pos rfl]
      exact ⟨v, p, j, rfl, Nat.le_refl _, hp, rfl, fun z => hx ⟨z.1, z.2.1⟩⟩
theorem yk_num (hH : yk_H I Rr q n0 top) (hst : stop = if top < n0 then top else n0) {dp p dg : Nat} {cm : Nat → Bool} {V W : List Int32} (hx : 48 ≤ (yk_t I q n0 top p).toInt ∧ (yk_t I q n0 top p).toInt ≤ 57) : ∃ v' p' j', xq_D xqP (d + 4) 259 [.ref 94, .int 3] (pI I p (-1), J, Rr) = some (some (.int v'), pI I p' (-1), J, Rr) ∧ p ≤ p' ∧ p' ≤ stop ∧ yk_o e (yk_t I q n0 top) n0 stop p (true, dp, cm, dg, V, W) = yk_o e (yk_t I q n0 top) n0 stop p' (false, dp, cm, j', v' :: V, W) ∧ yk_F4 (yk_t I q n0 top) p' (false, dp, cm, j', v' :: V, W) := by
  have hst76 : stop ≤ 76 := by
    have := hH.2.2.2.2.1
    rw [hst]
    split <;> omega
  have hps := yk_lt (I := I) (q := q) hst (p := p) (by omega)
  have e48 : (48 : Int32).toInt = 48 := by decide
  have e58 : ((48 : Int32) + 10 - 1).toInt = 57 := by decide
  obtain ⟨v', p', j', h1, h2, h3, h4, h5⟩ := yk_numl (d := d) (J := J) (e := e) hH hst (dp := dp) (cm := cm) (V := V) (W := W) 2 1 (p + 1) (yk_t I q n0 top p - 48) rfl (by omega) (by omega)
  refine ⟨v', p', j', ?_, by omega, h3, ?_, h5⟩
  · rw [qX8_number_eq, yk_one hH (by omega) (by decide) (by decide), e48, e58, if_pos hx, xb_I1]
    exact h1
  · rw [← h4]
    refine yk_o_s hps ?_
    unfold yk_1
    dsimp only
    rw [if_neg (by intro z; rw [z] at hx; exact absurd hx (by decide)), if_neg (by intro z; rw [z] at hx; exact absurd hx (by decide)), if_pos hx]
/-- thing(), if it is known of what is shorter -/
theorem yk_thing (hH : yk_H I Rr q n0 top) (hst : stop = if top < n0 then top else n0) (he : ∀ i, i < 7 → e i = if I 94 21 = 0 then 0 else I 104 i) {m : Nat} (hT : ∀ m', m = m' + 1 → ∀ d dp p cm dg V W, stop - p ≤ m' → p ≤ stop → dp ≤ 4 → yk_C e (yk_t I q n0 top) n0 stop I J Rr 292 4 (d + (4 * m' + 8)) dp p (true, dp, cm, dg, V, W)) (hB : ∀ m', m = m' + 1 → ∀ d dp p cm dg V W, stop - p ≤ m' → p ≤ stop → dp ≤ 4 → yk_st 1 W → cm dp = false → yk_C e (yk_t I q n0 top) n0 stop I J Rr 229 1 (d + (4 * m' + 11)) dp p (true, dp, cm, dg, V, W)) : ∀ d dp p cm dg V W, stop - p ≤ m → p ≤ stop → dp ≤ 4 → yk_C e (yk_t I q n0 top) n0 stop I J Rr 292 4 (d + (4 * m + 8)) dp p (true, dp, cm, dg, V, W) := by
  intro d dp p cm dg V W hm hp hdp
  have hst76 : stop ≤ 76 := by
    have := hH.2.2.2.2.1
    rw [hst]
    split <;> omega
  have e48 : (48 : Int32).toInt = 48 := by decide
  have e57 : (57 : Int32).toInt = 57 := by decide
  have hfault : ∀ s, s = yk_t I q n0 top p → ¬ s = 45 → (¬ s = 40 ∨ 4 ≤ dp) → ¬ (48 ≤ s.toInt ∧ s.toInt ≤ 57) → yk_ix s = none → yk_o e (yk_t I q n0 top) n0 stop p (true, dp, cm, dg, V, W) = .inl p := by
    intro s hs h1 h2 h3 h4
    by_cases hps : p < stop
    · refine yk_o_n hps ?_
      rw [← hs]
      unfold yk_1
      dsimp only
      rw [if_neg h1]
      by_cases g : s = 40
      · rw [if_pos g, if_neg (by have := h2.resolve_left (fun z => z g); omega)]
      · rw [if_neg g, if_neg h3, h4]
    · exact yk_o_e (by omega) (Or.inl rfl)
  have h67 : ∀ D, 5 ≤ D → ¬ yk_t I q n0 top p = 45 → (¬ yk_t I q n0 top p = 40 ∨ 4 ≤ dp) → ∃ v p' w, qX8_thing_h67 D (Int32.ofNat dp) (yk_t I q n0 top p) (pI I p (-1), J, Rr) = some (some (.int v), pI I p' w, J, Rr) ∧ p ≤ p' ∧ p' ≤ stop ∧ ((w = Int32.ofNat p' ∧ yk_o e (yk_t I q n0 top) n0 stop p (true, dp, cm, dg, V, W) = .inl p') ∨ (w = -1 ∧ ∃ Q', yk_o e (yk_t I q n0 top) n0 stop p (true, dp, cm, dg, V, W) = yk_o e (yk_t I q n0 top) n0 stop p' Q' ∧ Q'.1 = false ∧ Q'.2.1 = dp ∧ (∀ j, j < dp → Q'.2.2.1 j = cm j) ∧ (4 ≠ 1 → Q'.2.2.1 dp = cm dp) ∧ yk_fl 4 Q'.2.2.2.2.2 Q'.2.2.2.2.1 = yk_fl 4 W (v :: V) ∧ yk_F4 (yk_t I q n0 top) p' Q')) := by
    intro D hD h45 h40
    obtain ⟨D, rfl⟩ : ∃ D', D = D' + 5 := ⟨D - 5, by omega⟩
    rw [qX8_thing_h67_eq, xe_in, xb_I1, e48, e57]
    by_cases hx : 48 ≤ (yk_t I q n0 top p).toInt ∧ (yk_t I q n0 top p).toInt ≤ 57
    · rw [if_pos hx, if_neg (by decide)]
      obtain ⟨v', p', j', h1, h2, h3, h4, h5⟩ := yk_num (d := D + 1) (J := J) (e := e) hH hst (dp := dp) (cm := cm) (dg := dg) (V := V) (W := W) hx
      refine ⟨v', p', -1, ?_, h2, h3, Or.inr ⟨rfl, _, h4, rfl, rfl, fun j _ => rfl, fun _ => rfl, rfl, h5⟩⟩
      rw [h1, xb_I1]
    · rw [if_neg hx, if_pos rfl, yk_let, xb_I1]
      rcases yk_ixl (s := yk_t I q n0 top p) with ⟨i, hi, hi7, hl⟩ | ⟨hi, hl⟩
      · have hn1 : ¬ Int32.ofNat i = -1 := xr_ne1 (by omega)
        have hps : p < stop := by
          refine yk_lt (I := I) (q := q) hst (p := p) ?_
          refine Decidable.byContradiction fun z => ?_
          have := yk_tr (I := I) (q := q) (n0 := n0) (m := top) (p := p)
          have e9 : yk_t I q n0 top p = -1 := by
            rw [xt_eq]
            have : ((-1 : Int32)).toInt = -1 := by decide
            omega
          rw [e9, show yk_ix (-1) = none by decide] at hi
          cases hi
        have e21 : (pI I p (-1), J, Rr).1 94 21 = I 94 21 := pI_o (I := I) (p := p) (w := -1) (k := 94) (j := 21) (by decide)
        have e15 : (pI I p (-1), J, Rr).1 94 15 + 1 = Int32.ofNat (p + 1) := (Int32.ofNat_add p 1).symm
        have eu : xq_upd (pI I p (-1), J, Rr).1 94 15 (Int32.ofNat (p + 1)) = pI I (p + 1) (-1) := pI15
        have ho : yk_o e (yk_t I q n0 top) n0 stop p (true, dp, cm, dg, V, W) = yk_o e (yk_t I q n0 top) n0 stop (p + 1) (false, dp, cm, 0, e i :: V, W) := by
          refine yk_o_s hps ?_
          unfold yk_1
          dsimp only
          rw [if_neg h45]
          by_cases g : yk_t I q n0 top p = 40
          · rw [g, show yk_ix 40 = none by decide] at hi
            cases hi
          · rw [if_neg g, if_neg hx, hi]
        rw [hl, if_pos hn1, e21, e15, eu]
        refine ⟨e i, p + 1, -1, ?_, by omega, by omega, Or.inr ⟨rfl, _, ho, rfl, rfl, fun j _ => rfl, fun _ => rfl, rfl, fun z => absurd z.2.2.1 (by show ¬ 1 ≤ 0; decide)⟩⟩
        rw [he i hi7]
        by_cases g : I 94 21 = 0
        · rw [if_pos g, if_pos g]
        · rw [if_neg g, if_neg g, yk_let, xb_I1, hl]
          have ei := xt_nat (n := i) (by omega)
          have ein : (Int32.ofNat i).toInt.toNat = i := by omega
          rw [if_pos (by omega), ein]
          show some (some (Value.int (pI I (p + 1) (-1) 104 i)), _) = _
          rw [pI_o (k := 104) (by omega)]
      · have e15 : (pI I p (-1), J, Rr).1 94 15 = Int32.ofNat p := rfl
        rw [hl, if_neg (fun z => z rfl), e15, yk_fault, xb_V1, if_pos rfl]
        exact ⟨0, p, Int32.ofNat p, rfl, Nat.le_refl _, hp, Or.inl ⟨rfl, hfault _ rfl h45 h40 hx hi⟩⟩
  show ∃ v p' w, xq_D xqP ((d + (4 * m + 7)) + 1) 292 _ _ = _ ∧ _
  rw [qX8_thing_eq, show d + (4 * m + 7) = (d + (4 * m + 5)) + 2 by omega, yk_pass hH (by omega)]
  by_cases h45 : yk_t I q n0 top p = 45
  · have hps := yk_lt (I := I) (q := q) hst (p := p) (by rw [h45]; decide)
    rw [if_pos h45, xb_I1, if_neg (by decide)]
    obtain ⟨m', rfl⟩ : ∃ m', m = m' + 1 := ⟨m - 1, by omega⟩
    obtain ⟨v, p', w, h1, h2, h3, h4⟩ := hT m' rfl (d + 3) dp (p + 1) cm dg V (256 :: W) (by omega) (by omega) hdp
    have ho : yk_o e (yk_t I q n0 top) n0 stop p (true, dp, cm, dg, V, W) = yk_o e (yk_t I q n0 top) n0 stop (p + 1) (true, dp, cm, dg, V, 256 :: W) := by
      refine yk_o_s hps ?_
      unfold yk_1
      dsimp only
      rw [if_pos h45]
    have h1 : xq_D xqP (d + (4 * (m' + 1) + 5) + 2) 292 [.ref 94, .int (Int32.ofNat dp)] (pI I (p + 1) (-1), J, Rr) = some (some (.int v), pI I p' w, J, Rr) := by
      rw [← h1]
      congr 1
      omega
    rw [h1, xb_I1]
    refine ⟨-v, p', w, rfl, by omega, h3, ?_⟩
    rcases h4 with ⟨g1, g2⟩ | ⟨g1, Q', g2, g3, g4, g5, g6, g7, g8⟩
    · exact Or.inl ⟨g1, ho.trans g2⟩
    · exact Or.inr ⟨g1, Q', ho.trans g2, g3, g4, g5, g6, g7, g8⟩
  · rw [if_neg h45, xb_I1, if_pos rfl, show d + (4 * m + 5) + 2 = (d + (4 * m + 6)) + 1 by omega, yk_fine, xb_I1, if_pos rfl, if_pos (by decide), yk_here hH (by omega), xb_I1]
    by_cases h40 : yk_t I q n0 top p = 40
    · rw [if_neg (fun z => z h40)]
      by_cases hd4 : 4 ≤ dp
      · rw [if_pos (show (4 : Int32) ≤ Int32.ofNat dp from (xr_le (a := 4) (by omega) (by omega)).mpr hd4)]
        exact h67 _ (by omega) h45 (Or.inr hd4)
      · have hps := yk_lt (I := I) (q := q) hst (p := p) (by rw [h40]; decide)
        have e15 : (pI I p (-1), J, Rr).1 94 15 + 1 = Int32.ofNat (p + 1) := (Int32.ofNat_add p 1).symm
        have eu : xq_upd (pI I p (-1), J, Rr).1 94 15 (Int32.ofNat (p + 1)) = pI I (p + 1) (-1) := pI15
        have ed : Int32.ofNat dp + (1 : Int32) = Int32.ofNat (dp + 1) := (Int32.ofNat_add dp 1).symm
        rw [if_neg (show ¬ (4 : Int32) ≤ Int32.ofNat dp from fun z => hd4 ((xr_le (a := 4) (by omega) (by omega)).mp z)), e15, eu, ed]
        obtain ⟨m', rfl⟩ : ∃ m', m = m' + 1 := ⟨m - 1, by omega⟩
        obtain ⟨v, p1, w, h1, h2, h3, h4⟩ := hB m' rfl d (dp + 1) (p + 1) (yk_up cm (dp + 1) false) dg V (40 :: W) (by omega) (by omega) (by omega) (by show yk_bd 40 < 1; decide) (if_pos rfl)
        have ho : yk_o e (yk_t I q n0 top) n0 stop p (true, dp, cm, dg, V, W) = yk_o e (yk_t I q n0 top) n0 stop (p + 1) (true, dp + 1, yk_up cm (dp + 1) false, dg, V, 40 :: W) := by
          refine yk_o_s hps ?_
          unfold yk_1
          dsimp only
          rw [if_neg h45, if_pos h40, if_pos (by omega)]
        have h1 : xq_D xqP (d + (4 * (m' + 1) + 6) + 1) 229 [.ref 94, .int (Int32.ofNat (dp + 1))] (pI I (p + 1) (-1), J, Rr) = some (some (.int v), pI I p1 w, J, Rr) := by
          rw [← h1]
          congr 1
        rw [h1, xb_I1, show d + (4 * (m' + 1) + 6) + 1 = (d + (4 * (m' + 1) + 4)) + 3 by omega]
        rcases h4 with ⟨g1, g2⟩ | ⟨g1, Q', g2, g3, g4, g5, g6, g7, g8⟩
        · subst g1
          rw [yk_need0 (xr_ne1 (by omega)), xb_V1]
          exact ⟨v, p1, _, rfl, by omega, h3, Or.inl ⟨rfl, ho.trans g2⟩⟩
        · subst g1
          obtain ⟨due, dq, cm2, dg2, V2, W2⟩ := Q'
          have g3 : due = false := g3
          have g4 : dq = dp + 1 := g4
          subst g3
          subst g4
          have g7 : yk_fl 1 W2 V2 = yk_fl 1 (40 :: W) (v :: V) := g7
          rw [yk_st_fl (show yk_st 1 (40 :: W) from (by show yk_bd 40 < 1; decide))] at g7
          rw [yk_need hH (by omega), xb_V1]
          by_cases h41 : yk_t I q n0 top p1 = 41
          · have hps1 := yk_lt (I := I) (q := q) hst (p := p1) (by rw [h41]; decide)
            rw [if_pos h41]
            refine ⟨v, p1 + 1, -1, rfl, by omega, by omega, Or.inr ⟨rfl, (false, dp, cm2, 0, v :: V, W), ?_, rfl, rfl, fun j hj => ?_, fun _ => ?_, rfl, fun z => absurd z.2.2.1 (by show ¬ 1 ≤ 0; decide)⟩⟩
            · rw [ho, g2]
              refine yk_o_s hps1 ?_
              unfold yk_1
              dsimp only
              rw [if_neg (by rw [h41]; decide), if_pos h41, if_neg (by omega), g7]
              rfl
            · have h9 : cm2 j = yk_up cm (dp + 1) false j := g5 j (by omega)
              show cm2 j = cm j
              rw [h9]
              exact if_neg (by omega)
            · have h9 : cm2 dp = yk_up cm (dp + 1) false dp := g5 dp (by omega)
              show cm2 dp = cm dp
              rw [h9]
              exact if_neg (by omega)
          · rw [if_neg h41]
            refine ⟨v, p1, _, rfl, by omega, h3, Or.inl ⟨rfl, ?_⟩⟩
            rw [ho, g2]
            by_cases hps1 : p1 < stop
            · exact yk_o_n hps1 (yk_F1_none g8 rfl (Or.inl h41) (yk_tr).2)
            · exact yk_o_e (by omega) (Or.inr (Nat.succ_pos dp))
    · rw [if_pos h40]
      exact h67 _ (by omega) h45 (Or.inl h40)
end PKB
