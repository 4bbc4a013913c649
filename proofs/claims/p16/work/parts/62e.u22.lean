/-! A YEAR with values, whole -/
section YU22
variable {CC : List Int32} {T Tl : Nat → Int32} {n0 n1 n c q d K nx sz : Nat} {val : (Nat → Int32) → Int32} {ca mo wi s s' : Nat → Int32} {be : Int32} {I : Nat → Nat → Int32} {J : Nat → Nat → Int64} {R : Nat → Nat → Nat}
def yfY (I I' : Nat → Nat → Int32) : Prop := ∀ k j, ¬ k = 7 → ¬ k = 8 → ¬ k = 9 → ¬ k = 13 → ¬ (15 ≤ k ∧ k ≤ 20) → ¬ (k = 3 ∧ (j = 10 ∨ j = 11)) → I' k j = I k j
theorem yc_yearE {qf : Nat} (hn0 : n0 ≤ 80) (h1 : I 1 1 = Int32.ofNat n0) (hr : yar (yaT I n0) n0 80 0 0 = .inl qf) : xq_D xqP (d + 8) 181 [.ref 0] (I, J, R) = some (some (.int (yaZ c n0 (yaT I n0))), xq_upd I 1 1 0, J, R) := by
  rw [qX7_year_eq, yc_fault (d := d + 5) h1 hn0, xb_I1]
  generalize hT : yaT I n0 = T at *
  have hz : yaZ c n0 T = -1 - Int32.ofNat qf := by
    unfold yaZ
    rw [hr]
  have hb := yar_inl 80 0 0 hr
  rw [hr]
  have hne : ¬ yaR (.inl qf) = -1 := fun z => by
    have := congrArg Int32.toInt (show Int32.ofNat qf = -1 from z)
    rw [xt_nat (by omega)] at this
    have em : ((-1 : Int32)).toInt = -1 := by decide
    omega
  rw [if_neg hne, qX6_empty_eq, xb_V1, hz]
  rfl
theorem yc_yearK (hn : n ≤ 8) (hc : c ≤ 8) (hq : q ≤ 40) (hn0 : n0 ≤ 80) (h1 : I 1 1 = Int32.ofNat n0) (hF : ycF n c q I R) (w1 : I 24 1 = Int32.ofNat nx) (w2 : nx < 12) (w3 : I 24 2 = Int32.ofNat sz) (w4 : sz ≤ 12) (hL : yLv (yv_c (I 11) q) Tl n1 val) (hri : ∀ r, r < c → I 4 r = ca r ∧ I 5 r = mo r ∧ I 6 r = wi r) (hw : yq_w c (yq_s I 15)) (hr : yar (yaT I n0) n0 80 0 0 = .inr K) : ∃ (I2 Ia I' : Nat → Nat → Int32) (J' : Nat → Nat → Int64), xq_D xqP (d + 8) 181 [.ref 0] (I, J, R) = some (some (.int (yaZ c n0 (yaT I n0))), I', J', R) ∧ (∀ k, k < 27 → yq_s I2 15 k = yYS n c (I 3 8) ca mo wi val (yaT I n0) K 0 (yq_s I 15) k) ∧ (∀ k, k < 27 → yq_s I2 18 k = yq_s I 15 k) ∧ yfY I I2 ∧ (yaN c (yaT I n0) K 0 = 0 → Ia = I2) ∧ (0 < yaN c (yaT I n0) K 0 → Ia 24 1 = Int32.ofNat ((nx + 1) % 12) ∧ Ia 24 2 = Int32.ofNat (if sz = 12 then 12 else sz + 1) ∧ ∀ k j, ¬ k = 24 → Ia k j = yq_cp I2 (26 + 3 * nx) 18 k j) ∧ I' 1 1 = 0 ∧ ∀ k j, ¬ (k = 1 ∧ j = 1) → ¬ (k = 78 ∧ j = 1) → I' k j = Ia k j := by
  rw [qX7_year_eq, yc_fault (d := d + 5) h1 hn0, xb_I1]
  generalize hT : yaT I n0 = T at *
  rw [hr]
  have hz : yaZ c n0 T = Int32.ofNat (yaN c T K 0) := by
    unfold yaZ
    rw [hr]
  obtain ⟨-, hK, hv0⟩ := yar_inr 80 0 0 hr (by omega) rfl
  have hv : ∀ i, i < K → yps T i < n0 ∧ ∃ q, yaf T (yps T i) = .inr q := fun i hi => hv0 i (Nat.zero_le _) hi
  have hy2 := yps_2 (fun i hi => (hv i hi).2)
  have h60 : ∀ i, i < K → yps T i < 60 := by
    intro i hi
    obtain ⟨-, q, hq⟩ := hv i hi
    obtain ⟨-, w2, -⟩ := yaf_inr hq
    have hne : ¬ T (yps T i) = -1 := fun z => by rw [z] at w2; revert w2; decide
    rw [← hT] at hne
    have := (yaT_in hne).2
    rw [hT] at this
    exact this
  have hK3 : K ≤ 30 := by
    refine Decidable.byContradiction fun z => ?_
    have h1 := hy2 30 (by omega)
    have h2 := h60 30 (by omega)
    omega
  have hKs : yps T K ≤ 100 := by
    cases K with
    | zero => exact Nat.zero_le _
    | succ k =>
      have := h60 k (by omega)
      rw [yps]
      rcases yaL_r (x := T (yps T k)) with z | z | z <;> omega
  have f1 : ∀ k j, ¬ (18 ≤ k ∧ k ≤ 20) → yq_cp I 18 15 k j = I k j := fun k j h => yq_cpn h
  have e4 : yaT (yq_cp I 18 15) n0 = T := by
    rw [← hT]
    funext x
    unfold yaT
    rw [f1 2 x (by decide)]
  have s15 : ∀ k, k < 27 → yq_s (yq_cp I 18 15) 15 k = yq_s I 15 k := fun k hk => yq_s_cg (fun j _ => ⟨f1 16 j (by decide), f1 17 j (by decide)⟩) (fun j _ _ => f1 15 j (by decide)) hk
  have hw1 : yq_w c (yq_s (yq_cp I 18 15) 15) := yq_w_cg s15 hw
  obtain ⟨I2, v3, v4, v5, m0, m5, m1⟩ := yc_h42w (d := d) (J := J) (R := R) (be := I 3 8) (ca := ca) (mo := mo) (wi := wi) hn hc hq hn0 hv hK hK3 hKs hL K 0 (yq_cp I 18 15) (by omega) ⟨(f1 3 7 (by decide)).trans hF.1, (f1 3 6 (by decide)).trans hF.2.1, (f1 10 4 (by decide)).trans hF.2.2.1, hF.2.2.2⟩ ((f1 1 1 (by decide)).trans h1) e4 (f1 3 8 (by decide)) (by rw [show yq_cp I 18 15 11 = I 11 from funext fun x => f1 11 x (by decide)]) (fun r hrc => by
    rw [f1 4 r (by decide), f1 5 r (by decide), f1 6 r (by decide)]
    exact hri r hrc) hw1
  have m0' : qX7_year_h42 (d + 7) 0 0 1 0 (yq_cp I 18 15, J, R) = qX7_year_h132 (d + 7) (Int32.ofNat (yaN c T K 0)) v3 v4 v5 (I2, J, R) := m0
  have mf : ∀ k j, k = 24 ∨ (26 ≤ k) → I2 k j = I k j := fun k j h => (m1 k j (by omega) (by omega) (by omega) (by omega) (by omega) (by omega) (by omega) (by omega)).trans (f1 k j (by omega))
  obtain ⟨Ia, a0, a1, I3, J3, o0, o1, o2⟩ := yc_h132w (d := d + 5) (J := J) (R := R) (v3 := v3) (v4 := v4) (v5 := v5) (D := yaN c T K 0) ((mf 24 1 (by decide)).trans w1) w2 ((mf 24 2 (by decide)).trans w3) w4 (by have := yaN_le (c := c) (T := T) K 0; omega)
  have eR : yaR (.inr K) = -1 := rfl
  rw [eR, if_pos rfl, yq_c18_15, xb_V1, m0', hz]
  refine ⟨I2, Ia, I3, J3, o0, fun k hk => ?_, fun k hk => ?_, fun k j g1 g2 g3 g4 g5 g6 => ?_, a0, a1, o1, o2⟩
  · rw [m5 k hk]
    exact yYS_cg hc hn (fun _ _ => ⟨rfl, rfl, rfl⟩) K 0 _ _ s15 hw1 k hk
  · rw [← yq_s_cp (I := I) (t := 18) (f := 15) hk]
    exact yq_s_cg (fun j _ => ⟨m1 19 j (by decide) (by decide) (by decide) (by decide) (by decide) (by decide) (by decide) (by omega), m1 20 j (by decide) (by decide) (by decide) (by decide) (by decide) (by decide) (by decide) (by omega)⟩) (fun j _ _ => m1 18 j (by decide) (by decide) (by decide) (by decide) (by decide) (by decide) (by decide) (by omega)) hk
  · exact (m1 k j g1 g2 g3 g4 (by omega) (by omega) (by omega) g6).trans (f1 k j (by omega))
def yfZ (I I' : Nat → Nat → Int32) : Prop := ∀ k j, ¬ k = 95 → ¬ k = 104 → ¬ k = 106 → ¬ k = 108 → ¬ k = 109 → ¬ k = 110 → ¬ (k = 94 ∧ (j = 8 ∨ j = 11 ∨ j = 13 ∨ j = 14 ∨ j = 15 ∨ j = 16 ∨ j = 27 ∨ j = 28)) → I' k j = I k j
theorem yr_yearW {M : Nat} (hn : n ≤ 8) (hc : c ≤ 8) (hq : q ≤ 40) (hn0 : n0 ≤ 80) (h8 : I 94 8 = Int32.ofNat n0) (hb : ∀ i, i < 80 → -128 ≤ (I 99 i).toInt ∧ (I 99 i).toInt ≤ 127) (h24 : I 94 24 = Int32.ofNat M) (hM : M ≤ 12) (hF : yrF 95 n c q I R) (hL : yLv CC (yk_t I 102 q 40) q val) (hw : yq_w c (I 95)) : ∃ (I' : Nat → Nat → Int32) (J' : Nat → Nat → Int64) (R' : Nat → Nat → Nat), xq_D xqP (d + 177) 299 [.ref 94] (I, J, R) = some (some (.int (yaZ c n0 (yk_t I 99 n0 60))), I', J', R') ∧ I' 94 8 = 0 ∧ ((∃ qf, yar (yk_t I 99 n0 60) n0 80 0 0 = .inl qf ∧ ∀ k j, ¬ k = 110 → ¬ (k = 94 ∧ (j = 8 ∨ j = 11 ∨ j = 13 ∨ j = 14 ∨ j = 15 ∨ j = 16)) → I' k j = I k j) ∨ ∃ K I2 Ib, yar (yk_t I 99 n0 60) n0 80 0 0 = .inr K ∧ (∀ k, k < 27 → I2 95 k = yYS n c (I 94 2) (I 98) (I 96) (I 97) val (yk_t I 99 n0 60) K 0 (I 95) k) ∧ (∀ k, k < 27 → I2 106 k = I 95 k) ∧ yfZ I I2 ∧ (yaN c (yk_t I 99 n0 60) K 0 = 0 → Ib = I2) ∧ (0 < yaN c (yk_t I 99 n0 60) K 0 → Ib 94 24 = Int32.ofNat (if M = 12 then 12 else M + 1) ∧ (∀ k j, ¬ k = 105 → ¬ (k = 94 ∧ j = 24) → Ib k j = I2 k j) ∧ ∀ j, j < (if M = 12 then 12 else M + 1) → ∀ i, i < 27 → Ib 105 (27 * j + i) = if j = (if M = 12 then 12 else M + 1) - 1 then I2 106 i else I2 105 (27 * (if M = 12 then j + 1 else j) + i)) ∧ ∀ k j, ¬ (k = 94 ∧ j = 10) → I' k j = Ib k j) := by
  have h8' : (xq_upd I 94 11 0, J, R).1 94 8 = Int32.ofNat n0 := by
    show xq_upd I 94 11 0 94 8 = _
    rw [xq_upd_n (by decide)]
    exact h8
  rw [qX8_year_eq, qX8_beginText_eq, h8', qX8_begin_99_eq, xb_V1, xb_V1]
  show ∃ (I' : Nat → Nat → Int32) (J' : Nat → Nat → Int64) (R' : Nat → Nat → Nat), qX8_year_h13 (d + 176) 0 (xq_upd (xq_upd (xq_upd (xq_upd (xq_upd (xq_upd I 94 11 0) 94 13 (Int32.ofNat n0)) 94 14 60) 94 15 0) 94 16 (-1)) 94 8 0, J, xq_upd R 94 12 99) = _ ∧ _
  generalize hI0 : xq_upd (xq_upd (xq_upd (xq_upd (xq_upd (xq_upd I 94 11 0) 94 13 (Int32.ofNat n0)) 94 14 60) 94 15 0) 94 16 (-1)) 94 8 0 = I0
  generalize hR0 : xq_upd R 94 12 99 = R0
  have f0 : ∀ k j, ¬ (k = 94 ∧ (j = 8 ∨ j = 11 ∨ j = 13 ∨ j = 14 ∨ j = 15 ∨ j = 16)) → I0 k j = I k j := fun k j h => by rw [← hI0, xq_upd_n (by omega), xq_upd_n (by omega), xq_upd_n (by omega), xq_upd_n (by omega), xq_upd_n (by omega), xq_upd_n (by omega)]
  have r0 : ∀ k j, ¬ (k = 94 ∧ j = 12) → R0 k j = R k j := fun k j h => by rw [← hR0, xq_upd_n h]
  have g8 : I0 94 8 = 0 := by rw [← hI0, xu_t]
  have g13 : I0 94 13 = Int32.ofNat n0 := by rw [← hI0, xu_j (by decide), xu_j (by decide), xu_j (by decide), xu_j (by decide), xu_t]
  have g14 : I0 94 14 = Int32.ofNat 60 := by rw [← hI0, xu_j (by decide), xu_j (by decide), xu_j (by decide), xu_t]; rfl
  have g15 : I0 94 15 = Int32.ofNat 0 := by rw [← hI0, xu_j (by decide), xu_j (by decide), xu_t]; rfl
  have g16 : I0 94 16 = -1 := by rw [← hI0, xu_j (by decide), xu_t]
  have eT : yk_t I 99 n0 60 = yk_t I0 99 n0 60 := by
    funext p
    unfold yk_t
    rw [f0 99 p (by omega)]
  have ei : pI I0 0 (-1) = I0 := xe_Iid g15 g16
  have hH : yk_H I0 R0 99 n0 60 := ⟨Or.inl ⟨rfl, hn0⟩, by rw [← hR0, xu_t], g13, g14, by decide, fun i hi => by rw [f0 99 i (by omega)]; exact hb i (by omega)⟩
  obtain ⟨I1, p1, w1, K, u0, u1, u2⟩ := yr_h13 (d := d + 172) (J := J) (R := R0) (T := yk_t I 99 n0 60) hn0 80 0 0 I0 (by omega) rfl (by decide) (by decide) eT hH (fun i hi => by omega)
  rw [ei] at u0
  have u0' : qX8_year_h13 (d + 176) 0 (I0, J, R0) = qX8_year_h44 (d + 176) (Int32.ofNat K) (pI I1 p1 w1, J, R0) := u0
  rw [u0']
  generalize yk_t I 99 n0 60 = T at u2 ⊢
  have g13' : I1 94 13 = Int32.ofNat n0 := (u1 94 13 (by decide)).trans g13
  have f1 : ∀ k j, ¬ k = 110 → ¬ (k = 94 ∧ (j = 8 ∨ j = 11 ∨ j = 13 ∨ j = 14 ∨ j = 15 ∨ j = 16)) → pI I1 p1 w1 k j = I k j := fun k j h1 h2 => by rw [pI_o (by omega), u1 k j h1, f0 k j h2]
  have f18 : pI I1 p1 w1 94 8 = 0 := by rw [pI_o (by decide), u1 94 8 (by decide), g8]
  rcases u2 with ⟨qf, v1, v2, v3⟩ | ⟨v1, v2, v3, v4, v5, v6, v7⟩
  · have hw : ¬ w1 = -1 := fun z => by
      have := congrArg Int32.toInt (v2.symm.trans z)
      rw [xt_nat (by omega)] at this
      have em : ((-1 : Int32)).toInt = -1 := by decide
      omega
    have hz : yaZ c n0 T = -1 - w1 := by
      unfold yaZ
      rw [v1, v2]
    rw [yr_h44b (d := d + 172) hn0 g13' hw, hz]
    exact ⟨_, _, _, rfl, f18, Or.inl ⟨_, v1, fun k j h1 h2 => f1 k j h1 h2⟩⟩
  · subst v2
    have hz : yaZ c n0 T = Int32.ofNat (yaN c T K 0) := by
      unfold yaZ
      rw [v1]
    obtain ⟨-, -, hval⟩ := yar_inr 80 0 0 v1 (by omega) rfl
    rw [yr_h44g (d := d + 172) v3 (by omega) g13', hz]
    obtain ⟨I2, l0, l1, l2, -⟩ := yq_l95_106 (d := d + 175) (J := J) (R := R0) (off := 0) (I := pI I1 p1 (-1)) (by decide)
    have l0' : xq_D xqP (d + 172 + 4) 246 [.ref 95, .ref 106, .int 0] (pI I1 p1 (-1), J, R0) = some (none, I2, J, R0) := l0
    rw [l0', xb_V1]
    have f2 : ∀ k j, ¬ k = 106 → ¬ k = 110 → ¬ (k = 94 ∧ (j = 8 ∨ j = 11 ∨ j = 13 ∨ j = 14 ∨ j = 15 ∨ j = 16)) → I2 k j = I k j := fun k j h1 h2 h3 => (l1 k j h1).trans (f1 k j h2 h3)
    have e95 : I2 95 = I 95 := funext fun i => f2 95 i (by decide) (by decide) (by omega)
    have hF2 : yrF 95 n c q I2 R0 := by
      obtain ⟨i1, i2, i3, i4, i5, i6, i7⟩ := hF
      exact ⟨(f2 94 1 (by decide) (by decide) (by decide)).trans i1, (f2 94 3 (by decide) (by decide) (by decide)).trans i2, (f2 94 20 (by decide) (by decide) (by decide)).trans i3, (f2 94 21 (by decide) (by decide) (by decide)).trans i4, (r0 94 18 (by decide)).trans i5, fun i hi => by rw [f2 102 i (by omega) (by omega) (by omega)]; exact i6 i hi, fun i hi => by rw [f2 95 i (by omega) (by omega) (by omega)]; exact i7 i hi⟩
    have eT2 : yk_t I2 102 q 40 = yk_t I 102 q 40 := by
      funext p
      unfold yk_t
      rw [f2 102 p (by decide) (by decide) (by omega)]
    obtain ⟨I3, R3, m0, m5, m1, m2⟩ := yr_h72w (d := d) (J := J) (T := T) (Tl := yk_t I 102 q 40) (be := I 94 2) (ca := I 98) (mo := I 96) (wi := I 97) hn hc hq (K := K) (by omega) (fun i hi => (hval i (Nat.zero_le _) hi).2) hL K 0 I2 R0 (by omega) hF2 (fun i hi => by
      obtain ⟨t1, t2, t3⟩ := v7 i hi
      have e : ∀ b, I2 110 b = I1 110 b := fun b => (l1 110 b (by decide)).trans (pI_o (by omega))
      exact ⟨(e _).trans t1, (e _).trans t2, fun z => (e _).trans (t3 z)⟩) eT2 (f2 94 2 (by decide) (by decide) (by decide)) (funext fun j => f2 98 j (by decide) (by decide) (by omega)) (funext fun j => f2 96 j (by decide) (by decide) (by omega)) (funext fun j => f2 97 j (by decide) (by decide) (by omega)) (by rw [e95]; exact hw)
    have m0' : qX8_year_h72 (d + 172 + 4) (Int32.ofNat K) 0 (I2, J, R0) = qX8_year_h118 (d + 176) (Int32.ofNat K) (Int32.ofNat (yaN c T K 0)) (I3, J, R3) := m0
    rw [m0']
    have f3 : ∀ k j, ¬ k = 95 → ¬ k = 104 → ¬ k = 106 → ¬ k = 108 → ¬ k = 109 → ¬ k = 110 → ¬ (k = 94 ∧ (j = 8 ∨ j = 11 ∨ j = 13 ∨ j = 14 ∨ j = 15 ∨ j = 16 ∨ j = 27 ∨ j = 28)) → I3 k j = I k j := fun k j h1 h2 h3 h4 h5 h6 h7 => (m1 k j h1 h2 h4 h5 (by omega)).trans (f2 k j h3 h6 (by omega))
    obtain ⟨Ib, b0, b1, I4, J4, o0, o1⟩ := yr_h118w (d := d + 174) (I := I3) (J := J) (R := R3) (v := Int32.ofNat K) (D := yaN c T K 0) (M := M) ((f3 94 24 (by decide) (by decide) (by decide) (by decide) (by decide) (by decide) (by decide)).trans h24) hM (by have := yaN_le (c := c) (T := T) K 0; omega)
    rw [o0]
    refine ⟨I4, J4, R3, rfl, ?_, Or.inr ⟨K, I3, Ib, v1, fun k hk => ?_, fun k hk => ?_, f3, b0, b1, o1⟩⟩
    · have i38 : I3 94 8 = 0 := by
        rw [m1 94 8 (by decide) (by decide) (by decide) (by decide) (by decide), l1 94 8 (by decide)]
        exact f18
      rw [o1 94 8 (by decide)]
      by_cases hD : yaN c T K 0 = 0
      · rw [b0 hD, i38]
      · rw [(b1 (by omega)).2.1 94 8 (by decide) (by decide), i38]
    · rw [m5 k hk, e95]
    · rw [m1 106 k (by decide) (by decide) (by decide) (by decide) (by omega)]
      have := l2 k hk
      rw [Nat.zero_add] at this
      rw [this]
      exact f1 95 k (by decide) (by omega)
end YU22
