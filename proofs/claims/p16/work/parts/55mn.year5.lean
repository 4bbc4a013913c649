/-! A YEAR: the reference, whole -/
section YYE
variable {d n0 n c q0 K : Nat} {I : Nat → Nat → Int32} {J : Nat → Nat → Int64} {R : Nat → Nat → Nat} {T : Nat → Int32}
theorem yaN_le {c : Nat} {T : Nat → Int32} : ∀ m i, yaN c T m i ≤ i + m
  | 0, i => by
    rw [yaN]
    omega
  | m + 1, i => by
    rw [yaN]
    split
    · have := yaN_le (c := c) (T := T) m (i + 1)
      omega
    · omega
theorem yr_h72 (hn : n ≤ 8) (hc : c ≤ 8) (hq : q0 ≤ 40) (hK : K ≤ 60) (hv : ∀ i, i < K → ∃ q, yaf T (yps T i) = .inr q) : ∀ (m i : Nat) (I : Nat → Nat → Int32) (R : Nat → Nat → Nat), i + m = K → yrF 95 n c q0 I R → (∀ i, i < K → yaA I T i (yps T i)) → ∃ (I' : Nat → Nat → Int32) (R' : Nat → Nat → Nat), qX8_year_h72 (d + 176) (Int32.ofNat K) (Int32.ofNat i) (I, J, R) = qX8_year_h118 (d + 176) (Int32.ofNat K) (Int32.ofNat (yaN c T m i)) (I', J, R') ∧ (∀ k j, ¬ k = 95 → ¬ k = 104 → ¬ k = 108 → ¬ k = 109 → ¬ (k = 94 ∧ (j = 13 ∨ j = 14 ∨ j = 15 ∨ j = 16 ∨ j = 27 ∨ j = 28)) → I' k j = I k j) ∧ (∀ k j, ¬ (k = 94 ∧ j = 12) → R' k j = R k j)
  | 0, i, I, R, h1, h2, h3 => by
    have : i = K := by omega
    subst this
    refine ⟨I, R, ?_, fun _ _ _ _ _ _ _ => rfl, fun _ _ _ => rfl⟩
    rw [qX8_year_h72_eq, if_pos (Int32.le_refl _)]
    rfl
  | m + 1, i, I, R, h1, h2, h3 => by
    have hi : i < K := by omega
    have a1 : Int32.ofNat i + (1 : Int32) = Int32.ofNat (i + 1) := (Int32.ofNat_add i 1).symm
    have a3 : (3 : Int32) * Int32.ofNat i = Int32.ofNat (3 * i) := (Int32.ofNat_mul 3 i).symm
    have a31 : Int32.ofNat (3 * i) + (1 : Int32) = Int32.ofNat (3 * i + 1) := (Int32.ofNat_add (3 * i) 1).symm
    have a32 : Int32.ofNat (3 * i) + (2 : Int32) = Int32.ofNat (3 * i + 2) := (Int32.ofNat_add (3 * i) 2).symm
    have b0 := xt_nat (n := 3 * i) (by omega)
    have b1 := xt_nat (n := 3 * i + 1) (by omega)
    have b2 := xt_nat (n := 3 * i + 2) (by omega)
    have c0 : (Int32.ofNat (3 * i)).toInt.toNat = 3 * i := by omega
    have c1 : (Int32.ofNat (3 * i + 1)).toInt.toNat = 3 * i + 1 := by omega
    have c2 : (Int32.ofNat (3 * i + 2)).toInt.toNat = 3 * i + 2 := by omega
    obtain ⟨q, hq1⟩ := hv i hi
    obtain ⟨w1, w2, w3, w4⟩ := yaf_inr hq1
    obtain ⟨u1, u2, u3⟩ := h3 i hi
    have e0 : (I, J, R).1 110 (3 * i) = T (yps T i) := u1
    have e1 : (I, J, R).1 110 (3 * i + 1) = yaa T i := u2
    obtain ⟨I1, R1, g0, g1, g2, g3⟩ := yr_actv (d := d) (J := J) (l := T (yps T i)) (a := yaa T i) (b := I 110 (3 * i + 2)) hn hc hq h2 (fun _ => by
      refine ⟨(yaa T i).toInt.toNat, ?_, ?_⟩
      · have e48 : ((48 : Int32)).toInt = 48 := by decide
        have := xt_sub (x := T (yps T i + 1)) (y := 48) (by rw [e48]; have := w3.1; omega) (by rw [e48]; have := w3.2; omega)
        unfold yaa
        have h1 := w3.1
        have h2 := w3.2
        omega
      · have e48 : ((48 : Int32)).toInt = 48 := by decide
        have := xt_sub (x := T (yps T i + 1)) (y := 48) (by rw [e48]; have := w3.1; omega) (by rw [e48]; have := w3.2; omega)
        have h1 := w3.1
        have h2 := w3.2
        have h5 : 0 ≤ (yaa T i).toInt ∧ (yaa T i).toInt ≤ 9 := by
          unfold yaa
          omega
        rw [xt_eq, xt_nat (by omega)]
        omega)
    have hV : yaV c (T (yps T i)) (yaa T i) (I 110 (3 * i + 2)) ↔ yaV c (T (yps T i)) (yaa T i) (yab2 T i) := by
      rcases yaL_r (x := T (yps T i)) with z | z | z
      · omega
      · exact yaV_b z
      · rw [u3 z]
        exact Iff.rfl
    rw [qX8_year_h72_eq, if_neg (fun z => by have := (xr_le (by omega) (by omega)).mp z; omega), a3, a31, a32, c0, c1, c2, b0, b1, b2, if_pos (by omega), if_pos (by omega), if_pos (by omega), e0, e1]
    have g0' : xq_D xqP (d + 176) 186 [.ref 94, .int (T (yps T i)), .int (yaa T i), .int ((I, J, R).1 110 (3 * i + 2))] (I, J, R) = some (some (.int (if yaV c (T (yps T i)) (yaa T i) (I 110 (3 * i + 2)) then 1 else 0)), I1, J, R1) := g0
    rw [g0', xb_I1, yaN]
    by_cases hy : yaV c (T (yps T i)) (yaa T i) (yab2 T i)
    · rw [if_pos (hV.mpr hy), if_neg (by decide), if_pos hy, a1]
      obtain ⟨I', R', k0, k1, k2⟩ := yr_h72 hn hc hq hK hv m (i + 1) I1 R1 (by omega) g1 (fun i hi => yaA_cg (k := K) (h3 i hi) (fun b _ => g2 110 b (by decide) (by decide) (by decide) (by decide) (by omega)) hi)
      exact ⟨I', R', k0, fun k j q1 q2 q3 q4 q5 => (k1 k j q1 q2 q3 q4 q5).trans (g2 k j q1 q2 q3 q4 q5), fun k j q => (k2 k j q).trans (g3 k j q)⟩
    · rw [if_neg (fun z => hy (hV.mp z)), if_pos rfl, if_neg hy]
      exact ⟨I1, R1, rfl, g2, g3⟩
theorem yr_h146 {v : Int32} {w : Int64} (h : I 94 10 = 0) : ∃ (I' : Nat → Nat → Int32) (J' : Nat → Nat → Int64), qX8_year_h146 (d + 1) v w (I, J, R) = some (some (.int v), I', J', R) ∧ ∀ k j, ¬ (k = 94 ∧ j = 10) → I' k j = I k j := by
  rw [qX8_year_h146_eq, yr_tell (n := 0) h (by decide), xb_V1, yr_tell (n := 1) xu_t (by decide), xb_V1]
  exact ⟨_, _, rfl, fun k j h => (xq_upd_n h).trans (xq_upd_n h)⟩
theorem yr_h130 {v w : Int32} : ∃ (I' : Nat → Nat → Int32) (J' : Nat → Nat → Int64), qX8_year_h130 (d + 1) v w (I, J, R) = some (some (.int w), I', J', R) ∧ ∀ k j, ¬ (k = 94 ∧ j = 10) → I' k j = I k j := by
  obtain ⟨I1, J1, g0, g1⟩ := yr_h146 (d := d) (I := xq_upd I 94 10 0) (J := J) (R := R) (v := w) (w := 0) xu_t
  obtain ⟨I2, J2, k0, k1⟩ := yr_h146 (d := d) (I := xq_upd I 94 10 0) (J := J) (R := R) (v := w) (w := 1) xu_t
  rw [qX8_year_h130_eq]
  by_cases h : v ≤ w
  · rw [if_pos h]
    exact ⟨I1, J1, g0, fun k j h => (g1 k j h).trans (xq_upd_n h)⟩
  · rw [if_neg h]
    exact ⟨I2, J2, k0, fun k j h => (k1 k j h).trans (xq_upd_n h)⟩
theorem yr_h118 {v w : Int32} {M : Nat} (h : I 94 24 = Int32.ofNat M) (hM : M ≤ 12) : ∃ (I' : Nat → Nat → Int32) (J' : Nat → Nat → Int64), qX8_year_h118 (d + 2) v w (I, J, R) = some (some (.int w), I', J', R) ∧ ∀ k j, ¬ k = 105 → ¬ (k = 94 ∧ (j = 10 ∨ j = 24)) → I' k j = I k j := by
  rw [qX8_year_h118_eq]
  by_cases hw : w ≤ 0
  · rw [if_pos hw]
    obtain ⟨I', J', g0, g1⟩ := yr_h130 (d := d + 1) (I := I) (J := J) (R := R) (v := v) (w := w)
    exact ⟨I', J', g0, fun k j _ h => g1 k j (by omega)⟩
  · rw [if_neg hw]
    obtain ⟨I1, k0, k1⟩ := yr_rem (d := d) (J := J) (R := R) h hM
    obtain ⟨I', J', g0, g1⟩ := yr_h130 (d := d + 1) (I := I1) (J := J) (R := R) (v := v) (w := w)
    rw [k0, xb_V1]
    exact ⟨I', J', g0, fun k j h1 h => (g1 k j (by omega)).trans (k1 k j h1 (by omega))⟩
/-- year() of the reference -/
theorem yr_year {M : Nat} (hn : n ≤ 8) (hc : c ≤ 8) (hq : q0 ≤ 40) (hn0 : n0 ≤ 80) (h8 : I 94 8 = Int32.ofNat n0) (hb : ∀ i, i < 80 → -128 ≤ (I 99 i).toInt ∧ (I 99 i).toInt ≤ 127) (h24 : I 94 24 = Int32.ofNat M) (hM : M ≤ 12) (hF : yrF 95 n c q0 I R) : ∃ (I' : Nat → Nat → Int32) (J' : Nat → Nat → Int64) (R' : Nat → Nat → Nat), xq_D xqP (d + 177) 299 [.ref 94] (I, J, R) = some (some (.int (yaZ c n0 (yk_t I 99 n0 60))), I', J', R') ∧ I' 94 8 = 0 ∧ (∀ k j, ¬ k = 95 → ¬ k = 104 → ¬ k = 105 → ¬ k = 106 → ¬ k = 108 → ¬ k = 109 → ¬ k = 110 → ¬ (k = 94 ∧ (j = 8 ∨ j = 10 ∨ j = 11 ∨ j = 13 ∨ j = 14 ∨ j = 15 ∨ j = 16 ∨ j = 24 ∨ j = 27 ∨ j = 28)) → I' k j = I k j) ∧ (∀ k j, ¬ (k = 94 ∧ j = 12) → R' k j = R k j) := by
  have h8' : (xq_upd I 94 11 0, J, R).1 94 8 = Int32.ofNat n0 := by
    show xq_upd I 94 11 0 94 8 = _
    rw [xq_upd_n (by decide)]
    exact h8
  rw [qX8_year_eq, qX8_beginText_eq, h8', qX8_begin_99_eq, xb_V1, xb_V1]
  show ∃ (I' : Nat → Nat → Int32) (J' : Nat → Nat → Int64) (R' : Nat → Nat → Nat), qX8_year_h13 (d + 176) 0 (xq_upd (xq_upd (xq_upd (xq_upd (xq_upd (xq_upd I 94 11 0) 94 13 (Int32.ofNat n0)) 94 14 60) 94 15 0) 94 16 (-1)) 94 8 0, J, xq_upd R 94 12 99) = _ ∧ _
  generalize hI0 : xq_upd (xq_upd (xq_upd (xq_upd (xq_upd (xq_upd I 94 11 0) 94 13 (Int32.ofNat n0)) 94 14 60) 94 15 0) 94 16 (-1)) 94 8 0 = I0
  generalize hR0 : xq_upd R 94 12 99 = R0
  have f0 : ∀ k j, ¬ (k = 94 ∧ (j = 8 ∨ j = 11 ∨ j = 13 ∨ j = 14 ∨ j = 15 ∨ j = 16)) → I0 k j = I k j := fun k j h => by rw [← hI0, xq_upd_n (by omega), xq_upd_n (by omega), xq_upd_n (by omega), xq_upd_n (by omega), xq_upd_n (by omega), xq_upd_n (by omega)]
  have r0 : ∀ k j, ¬ (k = 94 ∧ j = 12) → R0 k j = R k j := fun k j h => by rw [← hR0, xq_upd_n h]
  have g8 : I0 94 8 = 0 := by rw [← hI0, xu_t]
  have g13 : I0 94 13 = Int32.ofNat n0 := by rw [← hI0, xu_j (by decide), xu_j (by decide), xu_j (by decide), xu_j (by decide), xu_t]
  have g14 : I0 94 14 = Int32.ofNat 60 := by rw [← hI0, xu_j (by decide), xu_j (by decide), xu_j (by decide), xu_t]; rfl
  have g15 : I0 94 15 = Int32.ofNat 0 := by rw [← hI0, xu_j (by decide), xu_j (by decide), xu_t]; rfl
  have g16 : I0 94 16 = -1 := by rw [← hI0, xu_j (by decide), xu_t]
  have eT : yk_t I 99 n0 60 = yk_t I0 99 n0 60 := by
    funext p
    unfold yk_t
    rw [f0 99 p (by omega)]
  have ei : pI I0 0 (-1) = I0 := xe_Iid g15 g16
  have hH : yk_H I0 R0 99 n0 60 := ⟨Or.inl ⟨rfl, hn0⟩, by rw [← hR0, xu_t], g13, g14, by decide, fun i hi => by rw [f0 99 i (by omega)]; exact hb i (by omega)⟩
  have hF0 : yrF 95 n c q0 I0 R0 := by
    obtain ⟨i1, i2, i3, i4, i5, i6, i7⟩ := hF
    exact ⟨(f0 94 1 (by decide)).trans i1, (f0 94 3 (by decide)).trans i2, (f0 94 20 (by decide)).trans i3, (f0 94 21 (by decide)).trans i4, (r0 94 18 (by decide)).trans i5, fun i hi => by rw [f0 102 i (by omega)]; exact i6 i hi, fun i hi => by rw [f0 95 i (by omega)]; exact i7 i hi⟩
  obtain ⟨I1, p1, w1, K, u0, u1, u2⟩ := yr_h13 (d := d + 172) (J := J) (R := R0) (T := yk_t I 99 n0 60) hn0 80 0 0 I0 (by omega) rfl (by decide) (by decide) eT hH (fun i hi => by omega)
  rw [ei] at u0
  have u0' : qX8_year_h13 (d + 176) 0 (I0, J, R0) = qX8_year_h44 (d + 176) (Int32.ofNat K) (pI I1 p1 w1, J, R0) := u0
  rw [u0']
  generalize yk_t I 99 n0 60 = T at u2 ⊢
  have g13' : I1 94 13 = Int32.ofNat n0 := (u1 94 13 (by decide)).trans g13
  have f1 : ∀ k j, ¬ k = 110 → ¬ (k = 94 ∧ (j = 8 ∨ j = 11 ∨ j = 13 ∨ j = 14 ∨ j = 15 ∨ j = 16)) → pI I1 p1 w1 k j = I k j := fun k j h1 h2 => by rw [pI_o (by omega), u1 k j h1, f0 k j h2]
  have f18 : pI I1 p1 w1 94 8 = 0 := by rw [pI_o (by decide), u1 94 8 (by decide), g8]
  rcases u2 with ⟨q, v1, v2, v3⟩ | ⟨v1, v2, v3, v4, v5, v6, v7⟩
  · have hw : ¬ w1 = -1 := fun z => by
      have := congrArg Int32.toInt (v2.symm.trans z)
      rw [xt_nat (by omega)] at this
      have em : ((-1 : Int32)).toInt = -1 := by decide
      omega
    have hz : yaZ c n0 T = -1 - w1 := by
      unfold yaZ
      rw [v1, v2]
    rw [yr_h44b (d := d + 172) hn0 g13' hw, hz]
    exact ⟨_, _, _, rfl, f18, fun k j h1 h2 h3 h4 h5 h6 h7 h8 => f1 k j h7 (by omega), r0⟩
  · subst v2
    have hz : yaZ c n0 T = Int32.ofNat (yaN c T K 0) := by
      unfold yaZ
      rw [v1]
    obtain ⟨-, -, hval⟩ := yar_inr 80 0 0 v1 (by omega) rfl
    rw [yr_h44g (d := d + 172) v3 (by omega) g13', hz]
    obtain ⟨I2, l0, l1⟩ := yr_lay106 (d := d + 175) (J := J) (R := R0) 27 0 (pI I1 p1 (-1)) rfl
    have l0' : xq_D xqP (d + 172 + 4) 246 [.ref 95, .ref 106, .int 0] (pI I1 p1 (-1), J, R0) = some (none, I2, J, R0) := by
      rw [show d + 172 + 4 = d + 175 + 1 from rfl, qX8_lay_95_106_eq]
      exact l0
    rw [l0', xb_V1]
    have f2 : ∀ k j, ¬ k = 106 → ¬ k = 110 → ¬ (k = 94 ∧ (j = 8 ∨ j = 11 ∨ j = 13 ∨ j = 14 ∨ j = 15 ∨ j = 16)) → I2 k j = I k j := fun k j h1 h2 h3 => (l1 k j h1).trans (f1 k j h2 h3)
    have hF2 : yrF 95 n c q0 I2 R0 := by
      obtain ⟨i1, i2, i3, i4, i5, i6, i7⟩ := hF
      exact ⟨(f2 94 1 (by decide) (by decide) (by decide)).trans i1, (f2 94 3 (by decide) (by decide) (by decide)).trans i2, (f2 94 20 (by decide) (by decide) (by decide)).trans i3, (f2 94 21 (by decide) (by decide) (by decide)).trans i4, (r0 94 18 (by decide)).trans i5, fun i hi => by rw [f2 102 i (by omega) (by omega) (by omega)]; exact i6 i hi, fun i hi => by rw [f2 95 i (by omega) (by omega) (by omega)]; exact i7 i hi⟩
    obtain ⟨I3, R3, m0, m1, m2⟩ := yr_h72 (d := d) (J := J) (T := T) hn hc hq (K := K) (by omega) (fun i hi => (hval i (Nat.zero_le _) hi).2) K 0 I2 R0 (by omega) hF2 (fun i hi => by
      obtain ⟨t1, t2, t3⟩ := v7 i hi
      have e : ∀ b, I2 110 b = I1 110 b := fun b => (l1 110 b (by decide)).trans (pI_o (by omega))
      exact ⟨(e _).trans t1, (e _).trans t2, fun z => (e _).trans (t3 z)⟩)
    have m0' : qX8_year_h72 (d + 172 + 4) (Int32.ofNat K) 0 (I2, J, R0) = qX8_year_h118 (d + 176) (Int32.ofNat K) (Int32.ofNat (yaN c T K 0)) (I3, J, R3) := m0
    rw [m0']
    have f3 : ∀ k j, ¬ k = 95 → ¬ k = 104 → ¬ k = 106 → ¬ k = 108 → ¬ k = 109 → ¬ k = 110 → ¬ (k = 94 ∧ (j = 8 ∨ j = 11 ∨ j = 13 ∨ j = 14 ∨ j = 15 ∨ j = 16 ∨ j = 27 ∨ j = 28)) → I3 k j = I k j := fun k j h1 h2 h3 h4 h5 h6 h7 => (m1 k j h1 h2 h4 h5 (by omega)).trans (f2 k j h3 h6 (by omega))
    obtain ⟨I4, J4, o0, o1⟩ := yr_h118 (d := d + 174) (I := I3) (J := J) (R := R3) (v := Int32.ofNat K) (w := Int32.ofNat (yaN c T K 0)) (M := M) ((f3 94 24 (by decide) (by decide) (by decide) (by decide) (by decide) (by decide) (by decide)).trans h24) hM
    rw [o0]
    refine ⟨I4, J4, R3, rfl, ?_, fun k j h1 h2 h3 h4 h5 h6 h7 h8 => (o1 k j h3 (by omega)).trans (f3 k j h1 h2 h4 h5 h6 h7 (by omega)), fun k j h => (m2 k j h).trans (r0 k j h)⟩
    rw [o1 94 8 (by decide) (by decide), m1 94 8 (by decide) (by decide) (by decide) (by decide) (by decide), l1 94 8 (by decide)]
    exact f18
end YYE
