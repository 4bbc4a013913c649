/-! rota() with all that is kept -/
noncomputable def ym_QHLK (k1 k2 : Nat) : Bool := (xt_m k1 oQ9 aQ9 && xt_m k2 oQ9 aQ9) && ((xt_m k1 oH9 aH9 && xt_m k2 oH9 aH9) && ((xt_m k1 oL9 aL9 && xt_m k2 oL9 aL9) && (xt_m k1 oK9 aK9 && xt_m k2 oK9 aK9)))
set_option maxRecDepth 100000 in
theorem ym_rota : ym_QHLK k9X7_rota k9X8_rota = true := by decide +kernel
set_option maxRecDepth 100000 in
theorem ym_year : ym_QHLK k9X7_year k9X8_year = true := by decide +kernel
section YU15
variable {d c n n0 p nx sz k1 k2 : Nat} {I I' I1 I2 : Nat → Nat → Int32} {J : Nat → Nat → Int64} {R Rr : Nat → Nat → Nat} {x y z w il : Int32} {S : xq_S}
theorem yF_QNA (hm : ym_QHLK k1 k2 = true) (f1 : xz_fr k1 I I1) (f2 : xz_fr k2 I1 I2) (hF : yF I) (h8 : I2 94 8 = I2 1 1) (hN : yN I2) (hA : yPa I2) : yF I2 := by
  unfold ym_QHLK at hm
  simp only [Bool.and_eq_true] at hm
  obtain ⟨⟨a1, a2⟩, ⟨b1, b2⟩, ⟨c1, c2⟩, d1, d2⟩ := hm
  exact ⟨yP_Q (yfr2 xQ9 a1 a2 f1 f2) h8 hF.1, yHb_T (yfr2 xH9 b1 b2 f1 f2) hF.2.1, yL_T (yfr2 xL9 c1 c2 f1 f2) hF.2.2.1, hN, hA, yK_T (yfr2 xK9 d1 d2 f1 f2) hF.2.2.2.2.2⟩
theorem yc_stop (h1 : I 1 1 = Int32.ofNat n0) (h7 : I 3 7 = Int32.ofNat n) (hn0 : n0 ≤ 80) (hn : n ≤ 8) : (if I 3 7 < I 1 1 then I 3 7 else I 1 1) = Int32.ofNat (if n < n0 then n else n0) := by
  rw [h1, h7]
  by_cases g : n < n0
  · rw [if_pos g, if_pos (by rw [xt_lt, xt_nat (by omega), xt_nat (by omega)]; omega)]
  · rw [if_neg g, if_neg (by rw [xt_lt, xt_nat (by omega), xt_nat (by omega)]; omega)]
theorem yc_rotan (hc : c ≤ 8) (h3 : I 3 6 = Int32.ofNat c) (h1 : I 1 1 = Int32.ofNat n0) (h7 : I 3 7 = Int32.ofNat n) (hn0 : n0 ≤ 80) (hn : n ≤ 8) (hT : ∀ i, i < 80 → 0 ≤ (I 2 i).toInt ∧ (I 2 i).toInt ≤ 255) (hS : ¬ (n0 = n ∧ ∀ i, i < n → yro c (I 2 i))) : ∃ a, xq_D xqP (d + 3) 159 [.ref 0] (I, J, R) = some (some (.int a), xq_upd I 1 1 0, J, R) := by
  have hst := yc_stop h1 h7 hn0 hn
  have key : ∃ p, p ≤ 80 ∧ xq_D xqP (d + 2) 160 [.ref 0] (I, J, R) = some (some (.int (Int32.ofNat p)), I, J, R) := by
    rw [qX7_rotaFault_eq]
    show ∃ p, p ≤ 80 ∧ qX7_rotaFault_h20 (d + 1) (if I 3 7 < I 1 1 then I 3 7 else I 1 1) 0 (I, J, R) = _
    rw [hst]
    rcases yc_rfl (d := d) (J := J) (R := R) hc h3 h1 h7 hn0 hn (stop := if n < n0 then n else n0) (by split <;> omega) (by split <;> omega) (fun i hi => hT i (by split at hi <;> omega)) _ 0 (Nat.zero_add _) with ⟨p', q1, q2, q3, q4, q5⟩ | ⟨q1, q2⟩
    · exact ⟨p', by split at q2 <;> omega, q5⟩
    · by_cases g : n0 = n
      · exfalso
        refine hS ⟨g, fun i hi => q1 i (Nat.zero_le _) ?_⟩
        rw [if_neg (by omega)]
        omega
      · rw [if_neg g] at q2
        exact ⟨_, by split <;> omega, q2⟩
  obtain ⟨p, hp, key⟩ := key
  refine ⟨-1 - Int32.ofNat p, ?_⟩
  rw [qX7_rota_eq, key, xb_I1, if_pos (xr_ne1 (by omega)), qX7_rota_h41_eq, qX6_empty_eq, xb_V1]
theorem yc_rotas (hc : c ≤ 8) (h3 : I 3 6 = Int32.ofNat c) (h1 : I 1 1 = Int32.ofNat n0) (h7 : I 3 7 = Int32.ofNat n) (hn0 : n0 ≤ 80) (hn : n ≤ 8) (hT : ∀ i, i < 80 → 0 ≤ (I 2 i).toInt ∧ (I 2 i).toInt ≤ 255) (w1 : I 24 1 = Int32.ofNat nx) (w2 : nx < 12) (w3 : I 24 2 = Int32.ofNat sz) (w4 : sz ≤ 12) (hS : n0 = n ∧ ∀ i, i < n → yro c (I 2 i)) : ∃ a I' It, xq_D xqP (d + 3) 159 [.ref 0] (I, J, R) = some (some (.int a), I', J, R) ∧ I' 1 1 = 0 ∧ I' 24 1 = Int32.ofNat ((nx + 1) % 12) ∧ I' 24 2 = Int32.ofNat (if sz = 12 then 12 else sz + 1) ∧ (∀ k j, ¬ k = 24 → ¬ (k = 1 ∧ j = 1) → I' k j = yq_cp It (26 + 3 * nx) 18 k j) ∧ (∀ i, i < 27 → yq_s It 18 i = yq_s I 15 i) ∧ (∀ i, i < 8 → It 16 i = if i < n then yrv (I 2 i) else -1) ∧ ∀ k j, ¬ k = 16 → ¬ (18 ≤ k ∧ k ≤ 20) → It k j = I k j := by
  have hst := yc_stop h1 h7 hn0 hn
  have key : xq_D xqP (d + 2) 160 [.ref 0] (I, J, R) = some (some (.int (-1)), I, J, R) := by
    rw [qX7_rotaFault_eq]
    show qX7_rotaFault_h20 (d + 1) (if I 3 7 < I 1 1 then I 3 7 else I 1 1) 0 (I, J, R) = _
    rw [hst]
    rcases yc_rfl (d := d) (J := J) (R := R) hc h3 h1 h7 hn0 hn (stop := if n < n0 then n else n0) (by split <;> omega) (by split <;> omega) (fun i hi => hT i (by split at hi <;> omega)) _ 0 (Nat.zero_add _) with ⟨p', q1, q2, q3, q4, q5⟩ | ⟨q1, q2⟩
    · exact absurd (hS.2 p' (by split at q2 <;> omega)) q3
    · rw [if_pos hS.1] at q2
      exact q2
  have hcp : ∀ k j, ¬ (18 ≤ k ∧ k ≤ 20) → yq_cp I 18 15 k j = I k j := fun k j h => yq_cpn h
  obtain ⟨It, a, t0, t1, t2⟩ := yc_takel (d := d) (J := J) (R := R) hn0 (n := n) (by omega) hn 8 0 (yq_cp I 18 15) 0 rfl ((hcp 1 1 (by decide)).trans h1) ((hcp 3 7 (by decide)).trans h7)
  have tn : ∀ k j, ¬ k = 16 → ¬ (18 ≤ k ∧ k ≤ 20) → It k j = I k j := fun k j h1 h2 => (t2 k j (by omega)).trans (hcp k j h2)
  obtain ⟨Ip, p0, p1, p2, p3⟩ := yq_push18 (d := d) (J := J) (R := R) ((tn 24 1 (by decide) (by decide)).trans w1) w2 ((tn 24 2 (by decide) (by decide)).trans w3) w4
  refine ⟨a, xq_upd Ip 1 1 0, It, ?_, xu_t, ?_, ?_, fun k j g1 g2 => ?_, fun i hi => ?_, fun i hi => ?_, tn⟩
  · have t0' : xq_D xqP (d + 2) 171 [.ref 0] (yq_cp I 18 15, J, R) = some (some (.int a), It, J, R) := by
      rw [qX7_takeRota_eq]
      exact t0
    rw [qX7_rota_eq, key, xb_I1, if_neg (fun q => q rfl), yq_c18_15, xb_V1, t0', xb_I1, p0, xb_V1, qX7_rota_h41_eq, qX6_empty_eq, xb_V1]
  · rw [xu_k (by decide), p1]
  · rw [xu_k (by decide), p2]
  · rw [xq_upd_n g2, p3 k j g1]
  · rw [← yq_s_cp (I := I) (t := 18) (f := 15) hi]
    exact yq_s_cg (fun j hj => ⟨t2 19 j (by omega), t2 20 j (by omega)⟩) (fun j _ _ => t2 18 j (by omega)) hi
  · rw [t1 i (Nat.zero_le _) hi, hcp 2 i (by omega)]
/-- the reference's text is taken up -/
def yr_I0 (I : Nat → Nat → Int32) (n0 n : Nat) : Nat → Nat → Int32 := xq_upd (xq_upd (xq_upd (xq_upd (xq_upd (xq_upd I 94 11 0) 94 13 (Int32.ofNat n0)) 94 14 (Int32.ofNat n)) 94 15 0) 94 16 (-1)) 94 8 0
theorem yr_I0n {k j : Nat} (h : ¬ (k = 94 ∧ (j = 8 ∨ j = 11 ∨ j = 13 ∨ j = 14 ∨ j = 15 ∨ j = 16))) : yr_I0 I n0 n k j = I k j := by
  unfold yr_I0
  rw [xq_upd_n (by omega), xq_upd_n (by omega), xq_upd_n (by omega), xq_upd_n (by omega), xq_upd_n (by omega), xq_upd_n (by omega)]
theorem yr_rota0 (h8 : I 94 8 = Int32.ofNat n0) (h1 : I 94 1 = Int32.ofNat n) : xq_D xqP (d + 4) 273 [.ref 94] (I, J, R) = qX8_rota_h15 (d + 3) (Int32.ofNat 0) (pI (yr_I0 I n0 n) 0 (-1), J, xq_upd R 94 12 99) := by
  have e0 : pI (yr_I0 I n0 n) 0 (-1) = yr_I0 I n0 n := by
    unfold pI
    refine xe_Iid ?_ ?_
    · unfold yr_I0
      rw [xu_j (by decide), xu_j (by decide), xu_t]
      rfl
    · unfold yr_I0
      rw [xu_j (by decide), xu_t]
  rw [e0, qX8_rota_eq]
  have e1 : (I, J, R).1 94 1 = Int32.ofNat n := h1
  rw [e1, qX8_beginText_eq]
  have e2 : (xq_upd (I, J, R).1 94 11 0, (I, J, R).2).1 94 8 = Int32.ofNat n0 := by
    show xq_upd I 94 11 0 94 8 = _
    rw [xu_j (by decide), h8]
  rw [e2, qX8_begin_99_eq, xb_V1, xb_V1]
  rfl
theorem yr_rota (hc : c ≤ 8) (h3 : I 94 3 = Int32.ofNat c) (h8 : I 94 8 = Int32.ofNat n0) (h1 : I 94 1 = Int32.ofNat n) (hn0 : n0 ≤ 80) (hn : n ≤ 8) (hT : ∀ i, i < 80 → -128 ≤ (I 99 i).toInt ∧ (I 99 i).toInt ≤ 127) (w5 : I 94 24 = Int32.ofNat sz) (w4 : sz ≤ 12) : ∃ a I' R', xq_D xqP (d + 4) 273 [.ref 94] (I, J, R) = some (some (.int a), I', J, R') ∧ I' 94 8 = 0 ∧ ((¬ (n0 = n ∧ ∀ i, i < n → yro c (I 99 i &&& 255)) ∧ ∀ k j, ¬ k = 101 → ¬ (k = 94 ∧ (j = 8 ∨ j = 11 ∨ j = 13 ∨ j = 14 ∨ j = 15 ∨ j = 16)) → I' k j = I k j) ∨ ((n0 = n ∧ ∀ i, i < n → yro c (I 99 i &&& 255)) ∧ I' 94 24 = Int32.ofNat (if sz = 12 then 12 else sz + 1) ∧ (∀ i, i < 8 → I' 95 i = if i < n then yrv (I 99 i &&& 255) else -1) ∧ (∀ i, 8 ≤ i → I' 95 i = I 95 i) ∧ (∀ j, j < (if sz = 12 then 12 else sz + 1) → ∀ i, i < 27 → I' 105 (27 * j + i) = if j = (if sz = 12 then 12 else sz + 1) - 1 then I 95 i else I 105 (27 * (if sz = 12 then j + 1 else j) + i)) ∧ ∀ k j, ¬ k = 101 → ¬ k = 95 → ¬ k = 105 → ¬ (k = 94 ∧ (j = 8 ∨ j = 11 ∨ j = 13 ∨ j = 14 ∨ j = 15 ∨ j = 16 ∨ j = 24)) → I' k j = I k j)) := by
  have hH : yk_H (yr_I0 I n0 n) (xq_upd R 94 12 99) 99 n0 n := by
    refine ⟨Or.inl ⟨rfl, hn0⟩, ?_, ?_, ?_, by omega, fun i hi => ?_⟩
    · unfold xq_upd
      rw [if_pos ⟨rfl, rfl⟩]
    · unfold yr_I0
      rw [xu_j (by decide), xu_j (by decide), xu_j (by decide), xu_j (by decide), xu_t]
    · unfold yr_I0
      rw [xu_j (by decide), xu_j (by decide), xu_j (by decide), xu_t]
    · rw [yr_I0n (by omega)]
      exact hT i (by omega)
  have et : ∀ i, i < n → i < n0 → yk_t (yr_I0 I n0 n) 99 n0 n i = I 99 i &&& 255 := fun i h1 h2 => by
    unfold yk_t
    rw [if_pos ⟨h2, h1⟩, yr_I0n (by omega)]
  rw [yr_rota0 h8 h1]
  rcases yr_rol (d := d) (J := J) hc hn n 0 (yr_I0 I n0 n) (by omega) hH ((yr_I0n (by decide)).trans h1) ((yr_I0n (by decide)).trans h3) with ⟨p, h', q1, q2, q3, q4, I', q5, q6⟩ | ⟨q1, I', q2, q3, -, q5⟩
  · have hw : ¬ Int32.ofNat p = -1 := xr_ne1 (by omega)
    refine ⟨-1 - Int32.ofNat p, pI I' p (Int32.ofNat p), xq_upd R 94 12 99, ?_, ?_, Or.inl ⟨fun z => ?_, fun k j g1 g2 => ?_⟩⟩
    · rw [q5, qX8_rota_h102_eq, xe_wr0 (w := Int32.ofNat p) rfl hw, xb_I1, if_neg (by decide)]
      rfl
    · rw [pI_o (by decide), q6 94 8 (by decide)]
      exact xu_t
    · refine q3 ?_
      rw [et p q2 (by omega)]
      exact z.2 p q2
    · rw [pI_o (by omega), q6 k j g1, yr_I0n g2]
  · by_cases g : n0 ≤ n
    · have hn0n : n0 = n := by
        refine Decidable.byContradiction fun z => ?_
        have h9 := q1 n0 (Nat.zero_le _) (by omega)
        unfold yk_t at h9
        rw [if_neg (by omega)] at h9
        rcases h9 with h9 | h9
        · exact absurd h9 (by decide)
        · exact absurd h9.1 (by decide)
      have hS : n0 = n ∧ ∀ i, i < n → yro c (I 99 i &&& 255) := ⟨hn0n, fun i hi => by rw [← et i hi (by omega)]; exact q1 i (Nat.zero_le _) hi⟩
      have e24 : pI I' n (-1) 94 24 = Int32.ofNat sz := by
        rw [pI_o (by decide), q5 94 24 (by decide), yr_I0n (by decide), w5]
      obtain ⟨Ib, r0, r1, r2, r3⟩ := yq_rem95 (d := d + 1) (J := J) (R := xq_upd R 94 12 99) e24 w4
      have bn : ∀ k j, ¬ k = 105 → ¬ k = 101 → ¬ (k = 94 ∧ (j = 8 ∨ j = 11 ∨ j = 13 ∨ j = 14 ∨ j = 15 ∨ j = 16 ∨ j = 24)) → Ib k j = I k j := fun k j g1 g2 g3 => by rw [r2 k j g1 (by omega), pI_o (by omega), q5 k j g2, yr_I0n (by omega)]
      obtain ⟨Ic, a', s0, s1, s2⟩ := yr_asl (d := d + 2) (J := J) (R := xq_upd R 94 12 99) hn 8 0 Ib 0 rfl ((bn 94 1 (by decide) (by decide) (by decide)).trans h1)
      refine ⟨a', Ic, xq_upd R 94 12 99, ?_, ?_, Or.inr ⟨hS, ?_, fun i hi => ?_, fun i hi => ?_, fun j hj i hi => ?_, fun k j g1 g2 g3 g4 => ?_⟩⟩
      · rw [q2, qX8_rota_h102_eq, xe_wr1 (n0 := n0) (p := n) rfl ((pI_o (by decide)).trans ((q5 94 13 (by decide)).trans hH.2.2.1)) rfl hn0 (by omega), if_pos g, xb_I1, if_pos (by decide), r0, xb_V1]
        exact s0
      · rw [s2 94 8 (by decide), r2 94 8 (by decide) (by decide), pI_o (by decide), q5 94 8 (by decide)]
        exact xu_t
      · rw [s2 94 24 (by decide), r1]
      · rw [s1 i (Nat.zero_le _) hi]
        by_cases e : i < n
        · rw [if_pos e, if_pos e, r2 101 i (by decide) (by omega), pI_o (by omega), q3 i (Nat.zero_le _) e, et i e (by omega)]
        · rw [if_neg e, if_neg e]
      · rw [s2 95 i (by omega), bn 95 i (by decide) (by decide) (by omega)]
      · rw [s2 105 _ (by omega), r3 j hj i hi, pI_o (by omega), pI_o (by omega), q5 95 i (by decide), q5 105 _ (by decide), yr_I0n (by omega), yr_I0n (by omega)]
      · rw [s2 k j (by omega), bn k j g3 g1 (by omega)]
    · refine ⟨-1 - Int32.ofNat n, xq_upd (pI I' n (-1)) 94 16 (Int32.ofNat n), xq_upd R 94 12 99, ?_, ?_, Or.inl ⟨fun z => by omega, fun k j g1 g2 => ?_⟩⟩
      · rw [q2, qX8_rota_h102_eq, xe_wr1 (n0 := n0) (p := n) rfl ((pI_o (by decide)).trans ((q5 94 13 (by decide)).trans hH.2.2.1)) rfl hn0 (by omega), if_neg g, xb_I1, if_neg (by decide)]
        show some (some (Value.int (-1 - xq_upd (pI I' n (-1)) 94 16 (Int32.ofNat n) 94 16)), _) = _
        rw [xu_t]
      · rw [xu_j (by decide), pI_o (by decide), q5 94 8 (by decide)]
        exact xu_t
      · rw [xq_upd_n (by omega), pI_o (by omega), q5 k j g1, yr_I0n g2]
end YU15
