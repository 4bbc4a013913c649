/-! law(): the round -/
def yfq3 (k j : Nat) : Bool := decide (¬ k = 1 ∧ ¬ k = 7 ∧ ¬ k = 13 ∧ ¬ k = 78 ∧ ¬ (83 ≤ k ∧ k ≤ 87) ∧ ¬ k = 103 ∧ ¬ k = 104 ∧ ¬ (k = 94 ∧ (j = 8 ∨ j = 10 ∨ j = 11 ∨ j = 13 ∨ j = 14 ∨ j = 15 ∨ j = 16 ∨ j = 21)))
def yfq4 (k : Nat) : Bool := decide (¬ k = 1 ∧ ¬ k = 7 ∧ ¬ k = 13 ∧ ¬ k = 78 ∧ ¬ (83 ≤ k ∧ k ≤ 87) ∧ ¬ k = 103 ∧ ¬ k = 104 ∧ ¬ k = 94)
theorem yfq_34 : ∀ k j, yfq4 k = true → yfq3 k j = true := fun k j h => by
  obtain ⟨a1, a2, a3, a4, a5, a6, a7, a8⟩ := of_decide_eq_true h
  exact decide_eq_true ⟨a1, a2, a3, a4, a5, a6, a7, fun z => a8 z.1⟩
noncomputable def ypQ (p : Nat → Nat → Bool) (q : Nat → Bool) : Bool := (oQ9.all (fun x => p x.1 x.2) && aQ9.all (fun x => q x.1)) && ((oH9.all (fun x => p x.1 x.2) && aH9.all (fun x => q x.1)) && ((oL9.all (fun x => p x.1 x.2) && aL9.all (fun x => q x.1)) && ((oN9.all (fun x => p x.1 x.2) && aN9.all (fun x => q x.1)) && ((oA9.all (fun x => p x.1 x.2) && aA9.all (fun x => q x.1)) && (oK9.all (fun x => p x.1 x.2) && aK9.all (fun x => q x.1))))))
theorem yF_pQ {p : Nat → Nat → Bool} {q : Nat → Bool} {I I' : Nat → Nat → Int32} (hpq : ∀ k j, q k = true → p k j = true) (hc : ypQ p q = true) (h : ∀ k j, xv k j = true → p k j = true → I' k j = I k j) (h8 : I' 94 8 = I' 1 1) (hF : yF I) : yF I' := by
  unfold ypQ at hc
  obtain ⟨c1, hc⟩ := yand2 hc
  obtain ⟨c2, hc⟩ := yand2 hc
  obtain ⟨c3, hc⟩ := yand2 hc
  obtain ⟨c4, hc⟩ := yand2 hc
  obtain ⟨c5, c6⟩ := yand2 hc
  exact ⟨yP_Q (fun k j g => h k j (xt_xv xQ9 g) (yT_fr hpq c1 g)) h8 hF.1, yHb_T (fun k j g => h k j (xt_xv xH9 g) (yT_fr hpq c2 g)) hF.2.1, yL_T (fun k j g => h k j (xt_xv xL9 g) (yT_fr hpq c3 g)) hF.2.2.1, yN_T (fun k j g => h k j (xt_xv xN9 g) (yT_fr hpq c4 g)) hF.2.2.2.1, yA_T (fun k j g => h k j (xt_xv xA9 g) (yT_fr hpq c5 g)) hF.2.2.2.2.1, yK_T (fun k j g => h k j (xt_xv xK9 g) (yT_fr hpq c6 g)) hF.2.2.2.2.2⟩
theorem yfq3_ok : ypQ yfq3 yfq4 = true := by decide +kernel
section YU28
variable {d c n q n0 m0 sz : Nat} {I I0 : Nat → Nat → Int32} {J : Nat → Nat → Int64} {R : Nat → Nat → Nat} {val : (Nat → Int32) → Int32} {C : List Int32} {T : Nat → Int32}
/-- HARD by the rule, at any ints that agree -/
theorem yc_H10 (hV : yV I c n) (hq : q ≤ 40) (hL : yLv C T n0 val) (h4 : I0 10 4 = Int32.ofNat q) (hC : yv_c (I0 11) q = C) (hI : ∀ r, r < 8 → I0 17 r = I 17 r ∧ I0 6 r = I 6 r ∧ I0 5 r = I 5 r ∧ I0 4 r = I 4 r) (h15 : I0 15 3 = I 15 3) : ∀ I', yagC I0 I' → ∀ r h, r < c → h < 8 → ∃ I'', xq_D xqP (d + 3) 20 [.ref 3, .ref 10, .ref 15, .int (Int32.ofNat r), .int (Int32.ofNat h)] (I', J, R) = some (some (.int (yHD val I r h)), I'', J, R) ∧ yagC I' I'' := by
  intro I' hag r h hr hh
  have hr8 : r < 8 := by have := hV.2.2.1; omega
  have g : ∀ k j, ¬ k = 7 → ¬ k = 13 → ¬ k = 86 → I' k j = I0 k j := hag
  obtain ⟨v, I'', k0, k1, -, -, k4⟩ := yc_hard15 (d := d) (J := J) (R := R) (I := I') hr8 hh hq ((g 10 4 (by decide) (by decide) (by decide)).trans h4)
  obtain ⟨x, x1, x2⟩ := yE_Hc hV hL r h hr hh
  obtain ⟨i1, i2, i3, i4⟩ := hI r hr8
  have hv : v = ycl x 0 999 := k4 x (by
    rw [g 17 r (by decide) (by decide) (by decide), g 6 r (by decide) (by decide) (by decide), g 5 r (by decide) (by decide) (by decide), g 4 r (by decide) (by decide) (by decide), g 15 3 (by decide) (by decide) (by decide), i1, i2, i3, i4, h15, show I' 11 = I0 11 from funext fun j => g 11 j (by decide) (by decide) (by decide), hC]
    exact x1)
  exact ⟨I'', by rw [k0, hv, x2], fun k j h1 h2 _ => k1 k j h1 h2⟩
theorem yc_H83 (hV : yV I c n) (hq : q ≤ 40) (hL : yLv C T n0 val) (h4 : I0 83 4 = Int32.ofNat q) (hC : yv_c (I0 84) q = C) (hI : ∀ r, r < 8 → I0 17 r = I 17 r ∧ I0 6 r = I 6 r ∧ I0 5 r = I 5 r ∧ I0 4 r = I 4 r) (h15 : I0 15 3 = I 15 3) : ∀ I', yagC I0 I' → ∀ r h, r < c → h < 8 → ∃ I'', xq_D xqP (d + 3) 20 [.ref 3, .ref 83, .ref 15, .int (Int32.ofNat r), .int (Int32.ofNat h)] (I', J, R) = some (some (.int (yHD val I r h)), I'', J, R) ∧ yagC I' I'' := by
  intro I' hag r h hr hh
  have hr8 : r < 8 := by have := hV.2.2.1; omega
  have g : ∀ k j, ¬ k = 7 → ¬ k = 13 → ¬ k = 86 → I' k j = I0 k j := hag
  obtain ⟨v, I'', k0, k1, -, -, k4⟩ := yc_hard83 (d := d) (J := J) (R := R) (I := I') hr8 hh hq ((g 83 4 (by decide) (by decide) (by decide)).trans h4)
  obtain ⟨x, x1, x2⟩ := yE_Hc hV hL r h hr hh
  obtain ⟨i1, i2, i3, i4⟩ := hI r hr8
  have hv : v = ycl x 0 999 := k4 x (by
    rw [g 17 r (by decide) (by decide) (by decide), g 6 r (by decide) (by decide) (by decide), g 5 r (by decide) (by decide) (by decide), g 4 r (by decide) (by decide) (by decide), g 15 3 (by decide) (by decide) (by decide), i1, i2, i3, i4, h15, show I' 84 = I0 84 from funext fun j => g 84 j (by decide) (by decide) (by decide), hC]
    exact x1)
  exact ⟨I'', by rw [k0, hv, x2], fun k j h1 _ h3 => k1 k j h1 h3⟩
theorem yr_H95 (hV : yV I c n) (hn0 : n0 ≤ 40) (hL : yLv C T n0 val) (hR : R 94 18 = 102) (h20 : I0 94 20 = Int32.ofNat n0) (h21 : I0 94 21 = 0) (hb : ∀ i, i < 40 → -128 ≤ (I0 102 i).toInt ∧ (I0 102 i).toInt ≤ 127) (hT : yk_t I0 102 n0 40 = T) (hI : ∀ r, r < 8 → I0 95 (8 + r) = I 95 (8 + r) ∧ I0 97 r = I 97 r ∧ I0 96 r = I 96 r ∧ I0 98 r = I 98 r) (h24 : I0 95 24 = I 95 24) : ∀ I' R', yagR I0 I' → (∀ k j, ¬ (k = 94 ∧ j = 12) → R' k j = R k j) → ∀ r h, r < c → h < 8 → ∃ I'' R'', xq_D xqP (d + 172) 225 [.ref 94, .ref 95, .int (Int32.ofNat r), .int (Int32.ofNat h)] (I', J, R') = some (some (.int (yHD val I r h)), I'', J, R'') ∧ yagR I' I'' ∧ ∀ k j, ¬ (k = 94 ∧ j = 12) → R'' k j = R' k j := by
  intro I' R' hag hRR r h hr hh
  have hr8 : r < 8 := by have := hV.2.2.1; omega
  have g : ∀ k j, ¬ k = 104 → ¬ (k = 94 ∧ (j = 13 ∨ j = 14 ∨ j = 15 ∨ j = 16)) → I' k j = I0 k j := hag
  have hT' : yk_t I' 102 n0 40 = T := by
    rw [← hT]
    funext p
    unfold yk_t
    rw [g 102 p (by decide) (by omega)]
  obtain ⟨v, I'', R'', k0, k1, k2, -, -, k5, k6⟩ := yr_hard95 (d := d) (J := J) (R := R') (I := I') hr8 hh hn0 ((g 94 20 (by decide) (by decide)).trans h20) ((hRR 94 18 (by decide)).trans hR) (fun i hi => by rw [g 102 i (by decide) (by omega)]; exact hb i hi) ((g 94 21 (by decide) (by decide)).trans h21)
  obtain ⟨i1, i2, i3, i4⟩ := hI r hr8
  have hHd : yr_Hd T n0 (fun r => I 95 (8 + r)) (I 97) (I 96) (I 98) (I 95 24) (yHD val I) := yHv_rr hL (fun r hr => rfl) rfl
  obtain ⟨x1, x2⟩ := hHd r h hr8 hh
  rw [g (95) (8 + r) (by decide) (by omega), g 97 r (by decide) (by omega), i1, i2] at k5
  rw [g (95) (8 + r) (by decide) (by omega), g 97 r (by decide) (by omega), g 96 r (by decide) (by omega), g 98 r (by decide) (by omega), g 95 24 (by decide) (by omega), i1, i2, i3, i4, h24, hT'] at k6
  have hv : v = yHD val I r h := by
    by_cases hz : n0 = 0
    · rw [k5 hz, x1 hz]
    · obtain ⟨x, y1, y2⟩ := x2 (by omega)
      rw [k6 (by omega) x y1, y2]
  exact ⟨I'', R'', by rw [k0, hv], k1, k2⟩
theorem yr_H95b (hV : yV I c n) (hn0 : n0 ≤ 40) (hL : yLv C T n0 val) (hR : R 94 18 = 103) (h20 : I0 94 20 = Int32.ofNat n0) (h21 : I0 94 21 = 0) (hb : ∀ i, i < 40 → -128 ≤ (I0 103 i).toInt ∧ (I0 103 i).toInt ≤ 127) (hT : yk_t I0 103 n0 40 = T) (hI : ∀ r, r < 8 → I0 95 (8 + r) = I 95 (8 + r) ∧ I0 97 r = I 97 r ∧ I0 96 r = I 96 r ∧ I0 98 r = I 98 r) (h24 : I0 95 24 = I 95 24) : ∀ I' R', yagR I0 I' → (∀ k j, ¬ (k = 94 ∧ j = 12) → R' k j = R k j) → ∀ r h, r < c → h < 8 → ∃ I'' R'', xq_D xqP (d + 172) 225 [.ref 94, .ref 95, .int (Int32.ofNat r), .int (Int32.ofNat h)] (I', J, R') = some (some (.int (yHD val I r h)), I'', J, R'') ∧ yagR I' I'' ∧ ∀ k j, ¬ (k = 94 ∧ j = 12) → R'' k j = R' k j := by
  intro I' R' hag hRR r h hr hh
  have hr8 : r < 8 := by have := hV.2.2.1; omega
  have g : ∀ k j, ¬ k = 104 → ¬ (k = 94 ∧ (j = 13 ∨ j = 14 ∨ j = 15 ∨ j = 16)) → I' k j = I0 k j := hag
  have hT' : yk_t I' 103 n0 40 = T := by
    rw [← hT]
    funext p
    unfold yk_t
    rw [g 103 p (by decide) (by omega)]
  obtain ⟨v, I'', R'', k0, k1, k2, -, -, k5, k6⟩ := yr_hard103 (d := d) (J := J) (R := R') (I := I') hr8 hh hn0 ((g 94 20 (by decide) (by decide)).trans h20) ((hRR 94 18 (by decide)).trans hR) (fun i hi => by rw [g 103 i (by decide) (by omega)]; exact hb i hi) ((g 94 21 (by decide) (by decide)).trans h21)
  obtain ⟨i1, i2, i3, i4⟩ := hI r hr8
  have hHd : yr_Hd T n0 (fun r => I 95 (8 + r)) (I 97) (I 96) (I 98) (I 95 24) (yHD val I) := yHv_rr hL (fun r hr => rfl) rfl
  obtain ⟨x1, x2⟩ := hHd r h hr8 hh
  rw [g (95) (8 + r) (by decide) (by omega), g 97 r (by decide) (by omega), i1, i2] at k5
  rw [g (95) (8 + r) (by decide) (by omega), g 97 r (by decide) (by omega), g 96 r (by decide) (by omega), g 98 r (by decide) (by omega), g 95 24 (by decide) (by omega), i1, i2, i3, i4, h24, hT'] at k6
  have hv : v = yHD val I r h := by
    by_cases hz : n0 = 0
    · rw [k5 hz, x1 hz]
    · obtain ⟨x, y1, y2⟩ := x2 (by omega)
      rw [k6 (by omega) x y1, y2]
  exact ⟨I'', R'', by rw [k0, hv], k1, k2⟩
end YU28
section YU28L
variable {I : Nat → Nat → Int32}
theorem ylawF (hF : yF I) (hB : yBG I) : yRm yBG 8 141 k9X7_law 174 245 k9X8_law [] True yF I := by
  refine yRm_mk fun J R hR => ?_
  obtain ⟨c, n, hV⟩ := yV_of hF hB.1
  obtain ⟨v1, v2, v3, v4, v5, v6, v7, v8, v9, v10, v11⟩ := id hV
  obtain ⟨q, m0, val, l1, l2, l3, l4, hL⟩ := yLv_of hF.2.2.1
  obtain ⟨n0, hn, hn80⟩ := ynat hB.1.1.1.2.2.2.1.1 hB.1.1.1.2.2.2.1.2
  have hn80 : n0 ≤ 80 := by omega
  have ht : I 94 8 = Int32.ofNat n0 := hF.1.1.trans hn
  have hb99 : ∀ i, i < 80 → -128 ≤ (I 99 i).toInt ∧ (I 99 i).toInt ≤ 127 := fun i hi => hB.1.1.1.1 i hi
  have hT : ∀ i, i < n0 → i < 40 → I 2 i = yk_t I 99 n0 40 i ∧ 0 ≤ (yk_t I 99 n0 40 i).toInt ∧ (yk_t I 99 n0 40 i).toInt ≤ 255 := fun i h1 h2 => by
    have e : yk_t I 99 n0 40 i = I 99 i &&& 255 := if_pos ⟨h1, h2⟩
    rw [e]
    exact ⟨hF.1.2.1 i (by omega), yk_and⟩
  have x99 : ∀ i, i < 80 → xv 99 i = true := fun i hi => xt_xv xP9 (Or.inr ⟨80, by decide, hi⟩)
  have x102 : ∀ i, i < 40 → xv 102 i = true ∧ xv 103 i = true := fun i hi => ⟨xv_ar (t := 3) (n := 40) rfl (by omega) hi, xv_ar (t := 3) (n := 40) rfl (by omega) hi⟩
  have x98 : ∀ i, i < 8 → xv 98 i = true ∧ xv 96 i = true ∧ xv 97 i = true := fun i hi => ⟨xt_xv xP9 (Or.inr ⟨8, by decide, hi⟩), xt_xv xP9 (Or.inr ⟨8, by decide, hi⟩), xt_xv xP9 (Or.inr ⟨8, by decide, hi⟩)⟩
  have e0 : (0 : Int32).toInt = 0 := by decide
  have h21 : I 94 21 = 0 := by
    obtain ⟨h1, h2⟩ := hB.1.1.2.2.2.2.2.2.1
    rw [xt_eq, e0]
    omega
  obtain ⟨a0, Is, s0, sf, s11, s5, s6⟩ := yg_spare_c (d := 0) (J := J) (R := R) hn hn80 hT hR.2.1
  have s0' : xq_D xqP 7 155 [.ref 0] (I, J, R) = some (some (.int a0), Is, J, R) := s0
  obtain ⟨b9, I9, R9, -, -, -, -, -, hd⟩ := yg_rrule (d := 0) (J := J) (R := R) ht hn80 (fun i hi => hb99 i (by omega))
  -- the reference reads
  have ref : ∀ (I1' : Nat → Nat → Int32) (J' : Nat → Nat → Int64) (R' : Nat → Nat → Nat), (∀ k j, xv k j = true → 94 ≤ k → I1' k j = I k j) → ∃ b I' R'', xq_D xqP 173 268 [.ref 94] (xq_upd I1' 94 11 0, J', R') = some (some (.int b), I', J', R'') ∧ I' 94 8 = 0 ∧ I' 94 21 = 0 ∧ (∀ k j, ¬ (k = 94 ∧ (j = 8 ∨ j = 11 ∨ j = 13 ∨ j = 14 ∨ j = 15 ∨ j = 16 ∨ j = 21)) → I' k j = I1' k j) ∧ (∀ k j, ¬ (k = 94 ∧ j = 12) → R'' k j = R' k j) ∧ ((b = 1 ∧ n0 ≤ 40 ∧ (0 < n0 → ∃ Q, yk_o (fun _ => 0) (yk_t I 99 n0 40) n0 (if 40 < n0 then 40 else n0) 0 yk_Q0 = .inr Q)) ∨ (b = 0 ∧ 0 < n0 ∧ ∃ p, p ≤ 40 ∧ I' 94 16 = Int32.ofNat p ∧ yk_o (fun _ => 0) (yk_t I 99 n0 40) n0 (if 40 < n0 then 40 else n0) 0 yk_Q0 = .inl p)) := by
    intro I1' J' R' g
    have et : yk_t (xq_upd I1' 94 11 0) 99 n0 40 = yk_t I 99 n0 40 := by
      funext p
      unfold yk_t
      by_cases hp : p < n0 ∧ p < 40
      · rw [if_pos hp, if_pos hp, xu_k (by decide), g 99 p (x99 p (by omega)) (by decide)]
      · rw [if_neg hp, if_neg hp]
    obtain ⟨b, I', R'', k0, k1, k2, k3, k4, k5⟩ := yg_rrule (d := 1) (J := J') (R := R') (I := xq_upd I1' 94 11 0) (by rw [xu_j (by decide), g 94 8 rfl (by decide), ht]) hn80 (fun i hi => by rw [xu_k (by decide), g 99 i (x99 i (by omega)) (by decide)]; exact hb99 i (by omega))
    rw [et] at k5
    exact ⟨b, I', R'', k0, k1, k2, fun k j h => by rw [k3 k j (by omega), xq_upd_n (by omega)], k4, k5⟩
  rcases hd with ⟨-, h40, hQ⟩ | ⟨-, hpos, p, hp40, -, hp⟩
  · -- it can be read
    have ha : a0 = -1 := by
      by_cases hz : n0 = 0
      · exact (s5 hz).1
      · have y := s6 (by omega) (fun _ => 0)
        obtain ⟨Q, hQ⟩ := hQ (by omega)
        rw [hQ] at y
        exact y.1
    obtain ⟨sz, val2, z1, z2, hL2⟩ := yg_sval hn80 (fun i hi => hb99 i (by omega)) ha h40 s5 s6
    have hcls : ∀ k j, ¬ (83 ≤ k ∧ k ≤ 87) → ¬ (k = 1 ∧ j = 1) → Is k j = I k j := sf
    have hro : ∀ h, h < 8 → -1 ≤ (Is 16 h).toInt ∧ (Is 16 h).toInt < (c : Int) := fun h hh => by
      have := v11.1 h hh
      rw [v10 h (by omega), yq_s_1 hh] at this
      rw [sf 16 h (by omega) (by omega)]
      exact this
    have hIs : ∀ r, r < 8 → Is 17 r = I 17 r ∧ Is 6 r = I 6 r ∧ Is 5 r = I 5 r ∧ Is 4 r = I 4 r := fun r _ => ⟨sf 17 r (by omega) (by omega), sf 6 r (by omega) (by omega), sf 5 r (by omega) (by omega), sf 4 r (by omega) (by omega)⟩
    obtain ⟨Ia, a1, a2⟩ := yc_hor83l (d := 3) (J := J) (R := R) (I0 := Is) (Hd := yHD val2 I) v7 v3 ((sf 3 7 (by decide) (by decide)).trans v4) ((sf 3 6 (by decide) (by decide)).trans v1) hro (yc_H83 (d := 3) (J := J) (R := R) hV z2 hL2 z1 rfl hIs (sf 15 3 (by decide) (by decide))) n 0 Is (Nat.zero_add _) (fun _ _ _ _ _ => rfl)
    have a2' : ∀ k j, ¬ k = 7 → ¬ k = 13 → ¬ k = 86 → Ia k j = Is k j := a2
    have hroa : ∀ h, h < 8 → -1 ≤ (Ia 16 h).toInt ∧ (Ia 16 h).toInt < (c : Int) := fun h hh => by
      rw [a2' 16 h (by decide) (by decide) (by decide)]
      exact hro h hh
    obtain ⟨Ib, b1, b2⟩ := yc_hor10l (d := 3) (J := J) (R := R) (I0 := Ia) (Hd := yHD val I) v7 v3 ((a2' 3 7 (by decide) (by decide) (by decide)).trans ((sf 3 7 (by decide) (by decide)).trans v4)) ((a2' 3 6 (by decide) (by decide) (by decide)).trans ((sf 3 6 (by decide) (by decide)).trans v1)) hroa (yc_H10 (d := 3) (J := J) (R := R) (q := q) (C := yv_c (I 11) q) hV l2 hL ((a2' 10 4 (by decide) (by decide) (by decide)).trans ((sf 10 4 (by decide) (by decide)).trans l1)) (by rw [show Ia 11 = I 11 from funext fun j => (a2' 11 j (by decide) (by decide) (by decide)).trans (sf 11 j (by omega) (by omega))]) (fun r hr => by
      obtain ⟨i1, i2, i3, i4⟩ := hIs r hr
      exact ⟨(a2' 17 r (by decide) (by decide) (by decide)).trans i1, (a2' 6 r (by decide) (by decide) (by decide)).trans i2, (a2' 5 r (by decide) (by decide) (by decide)).trans i3, (a2' 4 r (by decide) (by decide) (by decide)).trans i4⟩) ((a2' 15 3 (by decide) (by decide) (by decide)).trans (sf 15 3 (by decide) (by decide)))) n 0 Ia (Nat.zero_add _) (fun _ _ _ _ _ => rfl)
    have b2' : ∀ k j, ¬ k = 7 → ¬ k = 13 → ¬ k = 86 → Ib k j = Ia k j := b2
    have a1' : qX7_hardOfRota_83_h4 6 0 0 (Is, J, R) = some (some (.int (yhs (yHD val2 I) (Is 16) n)), Ia, J, R) := a1
    have b1' : qX7_hardOfRota_10_h4 6 0 0 (Ia, J, R) = some (some (.int (yhs (yHD val I) (Ia 16) n)), Ib, J, R) := b1
    have cb : ∀ k j, ¬ k = 7 → ¬ k = 13 → ¬ (83 ≤ k ∧ k ≤ 87) → ¬ (k = 1 ∧ j = 1) → Ib k j = I k j := fun k j h1 h2 h3 h4 => by rw [b2' k j h1 h2 (by omega), a2' k j h1 h2 (by omega), sf k j h3 h4]
    refine ⟨yhs (yHD val2 I) (Is 16) n - yhs (yHD val I) (Ia 16) n, xq_upd (xq_upd (xq_upd Ib 78 1 0) 78 1 1) 78 1 2, ⟨xq_upd (xq_upd J 79 0 (yhs (yHD val2 I) (Is 16) n).toInt64) 79 1 (yhs (yHD val I) (Ia 16) n).toInt64, R, ?_⟩, fun I1' he hf hB1 J' R' hR' => ?_⟩
    · show xq_D xqP 8 141 [.ref 0] (I, J, R) = _
      have hR2 : (Is, J, R).2.2 0 14 = 83 := hR.2.1
      have hR3 : (Ia, J, R).2.2 3 9 = 10 := hR.1
      rw [qX7_law_eq, s0', xb_I1, if_pos ha, hR2, if_neg (by decide), if_pos rfl, qX7_hardOfRota_83_eq, a1', xb_I1, hR3, if_neg (by decide), if_pos rfl, qX7_hardOfRota_10_eq, b1', xb_I1, yc_tell2, xb_V1]
    · have g : ∀ k j, xv k j = true → ¬ k = 7 → ¬ k = 13 → ¬ (83 ≤ k ∧ k ≤ 87) → ¬ (k = 1 ∧ j = 1) → ¬ k = 78 → I1' k j = I k j := fun k j h0 h1 h2 h3 h4 h5 => by rw [he k j h0, xq_upd_n (by omega), xq_upd_n (by omega), xq_upd_n (by omega), cb k j h1 h2 h3 h4]
      have g94 : ∀ k j, xv k j = true → 94 ≤ k → I1' k j = I k j := fun k j h1 h2 => g k j h1 (by omega) (by omega) (by omega) (by omega) (by omega)
      obtain ⟨b, Ir, Rr, r0, r8, r21, rf, rR, rd⟩ := ref I1' J' R' g94
      have hb1 : b = 1 := by
        rcases rd with ⟨h, -⟩ | ⟨-, hpos, p, -, -, hp⟩
        · exact h
        · obtain ⟨Q, hQ⟩ := hQ hpos
          rw [hQ] at hp
          cases hp
      have rg : ∀ k j, xv k j = true → 94 ≤ k → ¬ (k = 94 ∧ (j = 8 ∨ j = 11 ∨ j = 13 ∨ j = 14 ∨ j = 15 ∨ j = 16 ∨ j = 21)) → Ir k j = I k j := fun k j h1 h2 h3 => (rf k j h3).trans (g94 k j h1 h2)
      have rg95 : ∀ i, i < 27 → Ir 95 i = I 95 i := fun i hi => rg 95 i (y95_xv hi) (by decide) (by omega)
      have hI0 : ∀ r, r < 8 → Ir 95 (8 + r) = I 95 (8 + r) ∧ Ir 97 r = I 97 r ∧ Ir 96 r = I 96 r ∧ Ir 98 r = I 98 r := fun r hr => ⟨rg95 _ (by omega), rg 97 r (x98 r hr).2.2 (by decide) (by omega), rg 96 r (x98 r hr).2.1 (by decide) (by omega), rg 98 r (x98 r hr).1 (by decide) (by omega)⟩
      have hTr : yk_t Ir 102 m0 40 = yk_t I 102 m0 40 := by
        funext p
        unfold yk_t
        by_cases hp : p < m0 ∧ p < 40
        · rw [if_pos hp, if_pos hp, rg 102 p (x102 p hp.2).1 (by decide) (by omega)]
        · rw [if_neg hp, if_neg hp]
      have r18 : Rr 94 18 = 102 := (rR 94 18 (by decide)).trans hR'.2.2.1
      have hror : ∀ h, h < 8 → -1 ≤ (Ir 95 h).toInt ∧ (Ir 95 h).toInt < (c : Int) := fun h hh => by
        rw [rg95 h (by omega)]
        exact v11.1 h hh
      obtain ⟨It, Rt, t0, t1, t2⟩ := yr_horl (d := 0) (J := J') (R := Rr) (I0 := Ir) (Hd := yHD val I) v7 v3 ((rg 94 1 rfl (by decide) (by decide)).trans v5) hror (yr_H95 (d := 0) (J := J') (R := Rr) hV l4 hL r18 ((rg 94 20 rfl (by decide) (by decide)).trans l3) r21 (fun i hi => by rw [rg 102 i (x102 i hi).1 (by decide) (by omega)]; exact hB.1.1.2.2.2.2.2.2.2.2.2 i hi) hTr hI0 (rg95 24 (by decide))) n 0 Ir Rr (Nat.zero_add _) (fun _ _ _ _ => rfl) (fun _ _ _ => rfl)
      have t0' : qX8_hardOfRota_h4 172 0 0 (Ir, J', Rr) = some (some (.int (yhs (yHD val I) (Ir 95) n)), It, J', Rt) := t0
      have t1' : ∀ k j, ¬ k = 104 → ¬ (k = 94 ∧ (j = 13 ∨ j = 14 ∨ j = 15 ∨ j = 16)) → It k j = Ir k j := t1
      have t18 : Rt 94 18 = 102 := (t2 94 18 (by decide)).trans r18
      have t19 : Rt 94 19 = 103 := (t2 94 19 (by decide)).trans ((rR 94 19 (by decide)).trans hR'.2.2.2)
      -- the other rule
      generalize hI4 : xq_upd It 94 20 (Int32.ofNat n0) = I4
      generalize hR4 : xq_upd Rt 94 18 103 = R4
      have r4 : R4 94 18 = 103 := by rw [← hR4, xu_t]
      obtain ⟨I5, p1, p3, p4, p5⟩ := yr_copy3 (d := 173) (J := J') (R := R4) (a := yhs (yHD val I) (Ir 95) n) (b := It 94 20) h40 r4 n0 0 I4 (Nat.zero_add _)
      have p3' : ∀ k j, ¬ k = 103 → I5 k j = I4 k j := p3
      have f4 : ∀ k j, ¬ (k = 94 ∧ j = 20) → I4 k j = It k j := fun k j h => by rw [← hI4, xq_upd_n h]
      have f5 : ∀ k j, ¬ k = 103 → ¬ k = 104 → ¬ (k = 94 ∧ (j = 13 ∨ j = 14 ∨ j = 15 ∨ j = 16 ∨ j = 20)) → I5 k j = Ir k j := fun k j h1 h2 h3 => by rw [p3' k j h1, f4 k j (by omega), t1' k j h2 (by omega)]
      have f99 : ∀ j, j < 80 → I4 99 j = I 99 j := fun j hj => by rw [f4 99 j (by omega), t1' 99 j (by decide) (by omega), rg 99 j (x99 j hj) (by decide) (by omega)]
      have i20 : I5 94 20 = Int32.ofNat n0 := by rw [p3' 94 20 (by decide), ← hI4, xu_t]
      have hb103 : ∀ i, i < 40 → -128 ≤ (I5 103 i).toInt ∧ (I5 103 i).toInt ≤ 127 := fun i hi => by
        by_cases hin : i < n0
        · rw [p4 i (Nat.zero_le _) hin]
          exact yb_nar _
        · rw [p5 i (by omega), f4 103 i (by omega), t1' 103 i (by decide) (by omega), rg 103 i (x102 i hi).2 (by decide) (by omega)]
          exact hB.2.2 i hi
      have hT5 : yk_t I5 103 n0 40 = yk_t I 99 n0 40 := by
        funext p
        unfold yk_t
        by_cases hp : p < n0 ∧ p < 40
        · rw [if_pos hp, if_pos hp, p4 p (Nat.zero_le _) hp.1, f99 p (by omega)]
          exact yr4_b _
        · rw [if_neg hp, if_neg hp]
      have f95 : ∀ i, i < 27 → I5 95 i = I 95 i := fun i hi => by rw [f5 95 i (by decide) (by decide) (by omega), rg95 i hi]
      have hI5 : ∀ r, r < 8 → I5 95 (8 + r) = I 95 (8 + r) ∧ I5 97 r = I 97 r ∧ I5 96 r = I 96 r ∧ I5 98 r = I 98 r := fun r hr => by
        obtain ⟨-, i2, i3, i4⟩ := hI0 r hr
        exact ⟨f95 _ (by omega), (f5 97 r (by decide) (by decide) (by omega)).trans i2, (f5 96 r (by decide) (by decide) (by omega)).trans i3, (f5 98 r (by decide) (by decide) (by omega)).trans i4⟩
      have hro5 : ∀ h, h < 8 → -1 ≤ (I5 95 h).toInt ∧ (I5 95 h).toInt < (c : Int) := fun h hh => by
        rw [f95 h (by omega)]
        exact v11.1 h hh
      obtain ⟨I6, R6, u0, u1, u2⟩ := yr_horl (d := 0) (J := J') (R := R4) (I0 := I5) (Hd := yHD val2 I) v7 v3 (by rw [f5 94 1 (by decide) (by decide) (by decide), rg 94 1 rfl (by decide) (by decide), v5]) hro5 (yr_H95b (d := 0) (J := J') (R := R4) hV h40 hL2 r4 i20 (by rw [f5 94 21 (by decide) (by decide) (by decide), r21]) hb103 hT5 hI5 (f95 24 (by decide))) n 0 I5 R4 (Nat.zero_add _) (fun _ _ _ _ => rfl) (fun _ _ _ => rfl)
      have u0' : qX8_hardOfRota_h4 172 0 0 (I5, J', R4) = some (some (.int (yhs (yHD val2 I) (I5 95) n)), I6, J', R6) := u0
      have u1' : ∀ k j, ¬ k = 104 → ¬ (k = 94 ∧ (j = 13 ∨ j = 14 ∨ j = 15 ∨ j = 16)) → I6 k j = I5 k j := u1
      have c8 : (I1', J', R').1 94 8 = Int32.ofNat n0 := (g94 94 8 rfl (by decide)).trans ht
      have p1' : qX8_law_h58a 173 (Int32.ofNat n0) (yhs (yHD val I) (Ir 95) n) (It 94 20) 0 (I4, J', R4) = qX8_law_h58a 173 (Int32.ofNat n0) (yhs (yHD val I) (Ir 95) n) (It 94 20) (Int32.ofNat n0) (I5, J', R4) := p1
      have key : qX8_law_h58a 173 (Int32.ofNat n0) (yhs (yHD val I) (Ir 95) n) (It 94 20) (Int32.ofNat n0) (I5, J', R4) = some (some (.int (yhs (yHD val2 I) (I5 95) n - yhs (yHD val I) (Ir 95) n)), xq_upd (xq_upd (xq_upd (xq_upd I6 94 20 (It 94 20)) 94 10 0) 94 10 (Int32.ofNat (0 + 1))) 94 10 (Int32.ofNat (1 + 1)), xq_upd (xq_upd J' 100 0 (yhs (yHD val2 I) (I5 95) n).toInt64) 100 1 (yhs (yHD val I) (Ir 95) n).toInt64, xq_upd R6 94 18 102) := by
        rw [qX8_law_h58a_eq, if_pos (Int32.le_refl _), qX8_hardOfRota_eq, u0', xb_I1, yr_tell (I := xq_upd (xq_upd I6 94 20 (It 94 20)) 94 10 0) (n := 0) xu_t (by decide), xb_V1, yr_tell (n := 1) xu_t (by decide), xb_V1]
      have exec : xq_D xqP 174 245 [.ref 94] (I1', J', R') = some (some (.int (yhs (yHD val2 I) (I5 95) n - yhs (yHD val I) (Ir 95) n)), xq_upd (xq_upd (xq_upd (xq_upd I6 94 20 (It 94 20)) 94 10 0) 94 10 (Int32.ofNat (0 + 1))) 94 10 (Int32.ofNat (1 + 1)), xq_upd (xq_upd J' 100 0 (yhs (yHD val2 I) (I5 95) n).toInt64) 100 1 (yhs (yHD val I) (Ir 95) n).toInt64, xq_upd R6 94 18 102) := by
        have d18 : (It, J', Rt).2.2 94 18 = 102 := t18
        have d19 : (It, J', Rt).2.2 94 19 = 103 := t19
        rw [qX8_law_eq, r0, xb_I1, c8, hb1, if_pos (by decide), qX8_hardOfRota_eq, t0', xb_I1, d18, if_neg (by decide), if_pos rfl, d19, if_neg (by decide), if_neg (by decide), if_pos rfl]
        show qX8_law_h58a 173 (Int32.ofNat n0) (yhs (yHD val I) (Ir 95) n) (It 94 20) 0 (xq_upd It 94 20 (Int32.ofNat n0), J', xq_upd Rt 94 18 103) = _
        rw [hI4, hR4, p1', key]
      refine ⟨_, _, ⟨_, _, exec⟩, fun _ => ?_, fun I2' he2 hf2 hB2 => ?_⟩
      · have e1 : yhs (yHD val2 I) (Is 16) n = yhs (yHD val2 I) (I5 95) n := yhs_cg n (fun h hh => ⟨by rw [sf 16 h (by omega) (by omega), f95 h (by omega), v10 h (by omega), yq_s_1 (by omega)], fun _ => rfl⟩)
        have e2 : yhs (yHD val I) (Ia 16) n = yhs (yHD val I) (Ir 95) n := yhs_cg n (fun h hh => ⟨by rw [a2' 16 h (by decide) (by decide) (by decide), sf 16 h (by omega) (by omega), rg95 h (by omega), v10 h (by omega), yq_s_1 (by omega)], fun _ => rfl⟩)
        rw [e1, e2]
      · refine yF_pQ yfq_34 yfq3_ok (fun k j h1 h2 => ?_) ?_ hF
        · obtain ⟨q1, q2, q3, q4, q5, q6, q7, q8⟩ := of_decide_eq_true h2
          rw [he2 k j h1, xq_upd_n (by omega), xq_upd_n (by omega), xq_upd_n (by omega)]
          by_cases hk : k = 94 ∧ j = 20
          · obtain ⟨rfl, rfl⟩ := hk
            rw [xu_t, t1' 94 20 (by decide) (by decide), rg 94 20 rfl (by decide) (by decide)]
          · rw [xq_upd_n hk, u1' k j q7 (by omega), f5 k j q6 q7 (by omega), rf k j (by omega), g k j h1 q2 q3 q5 (by omega) q4]
        · rw [he2 94 8 rfl, he2 1 1 rfl, xq_upd_n (by decide), xq_upd_n (by decide), xq_upd_n (by decide), xq_upd_n (by decide), xq_upd_n (by decide), xq_upd_n (by decide), xq_upd_n (by decide), xq_upd_n (by decide), u1' 94 8 (by decide) (by decide), u1' 1 1 (by decide) (by decide), f5 94 8 (by decide) (by decide) (by decide), f5 1 1 (by decide) (by decide) (by decide), r8, rf 1 1 (by decide), he 1 1 rfl, xu_k (by decide), xu_k (by decide), xu_k (by decide), b2' 1 1 (by decide) (by decide) (by decide), a2' 1 1 (by decide) (by decide) (by decide), s11]
  · have ha : a0 = Int32.ofNat p := by
      have y := s6 hpos (fun _ => 0)
      rw [hp] at y
      exact y.1
    have hna : ¬ a0 = -1 := by
      rw [ha]
      exact xr_ne1 (by omega)
    refine ⟨-10000 - a0, Is, ⟨J, R, ?_⟩, fun I1' he hf hB1 J' R' hR' => ?_⟩
    · show xq_D xqP 8 141 [.ref 0] (I, J, R) = _
      rw [qX7_law_eq, s0', xb_I1, if_neg hna]
    · have g : ∀ k j, xv k j = true → ¬ (83 ≤ k ∧ k ≤ 87) → ¬ (k = 1 ∧ j = 1) → I1' k j = I k j := fun k j h0 h3 h4 => by rw [he k j h0, sf k j h3 h4]
      have g94 : ∀ k j, xv k j = true → 94 ≤ k → I1' k j = I k j := fun k j h1 h2 => g k j h1 (by omega) (by omega)
      obtain ⟨b, Ir, Rr, r0, r8, r21, rf, rR, rd⟩ := ref I1' J' R' g94
      rcases rd with ⟨-, -, hQ⟩ | ⟨hb0, -, p', -, hp16, hp'⟩
      · obtain ⟨Q, hQ⟩ := hQ hpos
        rw [hQ] at hp
        cases hp
      · rw [hp] at hp'
        cases hp'
        refine ⟨-10000 - Int32.ofNat p, Ir, ⟨J', Rr, ?_⟩, fun _ => by rw [ha], fun I2' he2 hf2 hB2 => ?_⟩
        · show xq_D xqP 174 245 [.ref 94] (I1', J', R') = _
          have c16 : (Ir, J', Rr).1 94 16 = Int32.ofNat p := hp16
          rw [qX8_law_eq, r0, xb_I1, hb0, if_neg (fun z => z rfl), c16]
        · refine yF_pQ yfq_34 yfq3_ok (fun k j h1 h2 => ?_) ?_ hF
          · obtain ⟨q1, q2, q3, q4, q5, q6, q7, q8⟩ := of_decide_eq_true h2
            rw [he2 k j h1, rf k j (by omega), g k j h1 q5 (by omega)]
          · rw [he2 94 8 rfl, he2 1 1 rfl, r8, rf 1 1 (by decide), he 1 1 rfl, s11]
end YU28L
