/-! nights() -/
def ysum (f : Nat → Int32) : Nat → Int32
  | 0 => 0
  | r + 1 => ysum f r + f r
theorem ysum_c {f : Nat → Int32} {c : Nat} (h : ∀ r, r < 8 → c ≤ r → f r = 0) : ∀ m, c + m ≤ 8 → ysum f (c + m) = ysum f c
  | 0, _ => rfl
  | m + 1, hm => by
    show ysum f (c + m) + f (c + m) = _
    rw [h (c + m) (by omega) (by omega), ysum_c h m (by omega), Int32.add_zero]
theorem ysum_cg {f g : Nat → Int32} : ∀ c, (∀ r, r < c → f r = g r) → ysum f c = ysum g c
  | 0, _ => rfl
  | c + 1, h => by
    show ysum f c + f c = ysum g c + g c
    rw [h c (by omega), ysum_cg c (fun r hr => h r (by omega))]
set_option maxRecDepth 100000 in
theorem ym_nights : ym_NA k9X7_nights k9X8_nights = true := by decide +kernel
section YU8
variable {d c n q n0 nx sz k1 k2 : Nat} {I I' I1 I2 Ia : Nat → Nat → Int32} {J : Nat → Nat → Int64} {R : Nat → Nat → Nat} {x y il : Int32} {S : xq_S} {src : Nat → Int32}
theorem yc_suml15 : ∀ m v, v + m = 8 → qX5_tiredOfAll_h4 d (ysum (I 17) v) (Int32.ofNat v) (I, J, R) = some (some (.int (ysum (I 17) 8)), I, J, R)
  | 0, v, h => by
    have e : v = 8 := by omega
    subst e
    rw [qX5_tiredOfAll_h4_eq, if_pos (show (8 : Int32) ≤ Int32.ofNat 8 by decide)]
  | m + 1, v, h => by
    have a1 : Int32.ofNat v + (1 : Int32) = Int32.ofNat (v + 1) := (Int32.ofNat_add v 1).symm
    have b1 := xt_nat (n := v) (by omega)
    have b2 : (Int32.ofNat v).toInt.toNat = v := by omega
    rw [qX5_tiredOfAll_h4_eq, if_neg (fun z => by have := (xr_le (a := 8) (by omega) (by omega)).mp z; omega), b2, b1, if_pos (by omega), a1]
    exact yc_suml15 m (v + 1) (by omega)
theorem yc_sum15 : xq_D xqP (d + 1) 90 [.ref 15] (I, J, R) = some (some (.int (ysum (I 17) 8)), I, J, R) := by
  rw [qX5_tiredOfAll_eq]
  exact yc_suml15 8 0 rfl
theorem yr_suml95 (h3 : I 94 3 = Int32.ofNat c) (hc : c ≤ 8) : ∀ m v, v + m = c → qX8_tired_95_h4 d (ysum (fun r => I 95 (8 + r)) v) (Int32.ofNat v) (I, J, R) = some (some (.int (ysum (fun r => I 95 (8 + r)) c)), I, J, R)
  | 0, v, h => by
    have e : v = c := by omega
    subst e
    have e : (I, J, R).1 94 3 = Int32.ofNat v := h3
    rw [qX8_tired_95_h4_eq, e, if_pos (Int32.le_refl _)]
  | m + 1, v, h => by
    have e : (I, J, R).1 94 3 = Int32.ofNat c := h3
    have a1 : Int32.ofNat v + (1 : Int32) = Int32.ofNat (v + 1) := (Int32.ofNat_add v 1).symm
    have a8 : (8 : Int32) + Int32.ofNat v = Int32.ofNat (8 + v) := (Int32.ofNat_add 8 v).symm
    have b1 := xt_nat (n := 8 + v) (by omega)
    have b2 : (Int32.ofNat (8 + v)).toInt.toNat = 8 + v := by omega
    rw [qX8_tired_95_h4_eq, e, if_neg (fun z => by have := (xr_le (by omega) (by omega)).mp z; omega), a8, b2, b1, if_pos (by omega), a1]
    exact yr_suml95 h3 hc m (v + 1) (by omega)
theorem yr_sum95 (h3 : I 94 3 = Int32.ofNat c) (hc : c ≤ 8) : xq_D xqP (d + 1) 293 [.ref 94, .ref 95] (I, J, R) = some (some (.int (ysum (fun r => I 95 (8 + r)) c)), I, J, R) := by
  rw [qX8_tired_95_eq]
  exact yr_suml95 h3 hc c 0 (by omega)
/-- now and the past behind a push of what was now, the state s coming in its place -/
theorem yNP {I2' : Nat → Nat → Int32} {hN : Bool} (h36 : I 3 6 = Int32.ofNat c) (hc : c ≤ 8) (hW : yW I c nx sz) (v10 : ∀ i, i < 27 → I 95 i = yq_s I 15 i) (v11 : yq_w c (I 95))
    (e36 : I2' 3 6 = I 3 6) (hst : ∀ i, i < 27 → I2' 95 i = yq_s I2' 15 i) (hw : yq_w c (I2' 95))
    (hF : hN = false → (I2' 24 1 = I 24 1 ∧ I2' 24 2 = I 24 2 ∧ I2' 94 24 = I 94 24 ∧ (∀ k j, ySA k j → I2' k j = I k j) ∧ ∀ j, j < 324 → I2' 105 j = I 105 j))
    (hT : hN = true → ∃ Ia : Nat → Nat → Int32, Ia 24 1 = Int32.ofNat ((nx + 1) % 12) ∧ Ia 24 2 = Int32.ofNat (if sz = 12 then 12 else sz + 1) ∧ (∀ k j, ¬ k = 24 → Ia k j = yq_cp I (26 + 3 * nx) 15 k j) ∧ I2' 24 1 = Ia 24 1 ∧ I2' 24 2 = Ia 24 2 ∧ (∀ k j, ySA k j → I2' k j = Ia k j) ∧ I2' 94 24 = Int32.ofNat (if sz = 12 then 12 else sz + 1) ∧ ∀ j, j < (if sz = 12 then 12 else sz + 1) → ∀ i, i < 27 → I2' 105 (27 * j + i) = if j = (if sz = 12 then 12 else sz + 1) - 1 then I 95 i else I 105 (27 * (if sz = 12 then j + 1 else j) + i)) : yN I2' ∧ yPa I2' := by
  refine ⟨⟨c, e36.trans h36, hc, hst, hw⟩, ?_⟩
  cases hN with
  | false =>
    obtain ⟨f1, f2, f3, f4, f5⟩ := hF rfl
    obtain ⟨w1, w2, w3, w4, w5, w6⟩ := hW
    exact yPa_cg e36 f1 f2 f3 (fun k j h1 h2 h3 => f4 k j ⟨h1, h2, h3⟩) f5 ⟨c, nx, sz, h36, hc, w1, w2, w3, w4, w5, w6⟩
  | true =>
    obtain ⟨Ia, p1, p2, p3, q1, q2, q3, r1, r3⟩ := hT rfl
    exact yPush h36 hc hW v10 v11 p1 p2 p3 q1 q2 q3 e36 r1 r3
theorem ynights (hF : yF I) (hB : yBF I) : yRm yBF 7 147 k9X7_nights 176 258 k9X8_nights [x] True yF I := by
  refine yRm_mk fun J R hR => ?_
  obtain ⟨c, n, v1, v2, v3, v4, v5, v6, v7, v8, v9, v10, v11⟩ := yV_of hF hB
  obtain ⟨nx, sz, hW⟩ := yPa_of hF.2.2.2.2.1 v1 v3
  obtain ⟨w1, w2, w3, w4, w5, w6⟩ := id hW
  obtain ⟨q, n0, val, l1, l2, l3, l4, hL⟩ := yLv_of hF.2.2.1
  have e0 : (0 : Int32).toInt = 0 := by decide
  have e30 : (30 : Int32).toInt = 30 := by decide
  by_cases hA : 0 ≤ x.toInt ∧ x.toInt ≤ 30
  · obtain ⟨N, rfl, hN⟩ := ynat hA.1 hA.2
    have bN := xt_nat (n := N) (by omega)
    have hs15 : yq_w c (yq_s I 15) := yq_w_cg (fun i hi => (v10 i hi).symm) v11
    -- the class
    obtain ⟨Ia, hex, pn, pT, pF⟩ : ∃ Ia : Nat → Nat → Int32, (∀ K : xq_S → Option xq_O, (if Int32.ofNat N ≤ 0 then K (I, J, R) else xq_bV (xq_D xqP 6 42 [.ref 24, .ref 15] (I, J, R)) K) = K (Ia, J, R)) ∧ (∀ k j, k ≤ 23 ∨ 62 ≤ k → Ia k j = I k j) ∧ (0 < N → Ia 24 1 = Int32.ofNat ((nx + 1) % 12) ∧ Ia 24 2 = Int32.ofNat (if sz = 12 then 12 else sz + 1) ∧ ∀ k j, ¬ k = 24 → Ia k j = yq_cp I (26 + 3 * nx) 15 k j) ∧ (N = 0 → Ia = I) := by
      by_cases hz : N = 0
      · subst hz
        exact ⟨I, fun K => if_pos (by decide), fun _ _ _ => rfl, fun z => by omega, fun _ => rfl⟩
      · obtain ⟨Ia, p0, p1, p2, p3⟩ := yq_push15 (d := 4) (J := J) (R := R) w1 w2 w3 w4
        exact ⟨Ia, fun K => by rw [if_neg (fun z => by rw [xt_le, bN, e0] at z; omega), p0, xb_V1], fun k j h => (p3 k j (by omega)).trans (yq_cpn (by omega)), fun _ => ⟨p1, p2, p3⟩, fun z => absurd z hz⟩
    have hst : ∀ i, i < 27 → yq_s Ia 15 i = yq_s I 15 i := fun i hi => yq_s_cg (fun j hj => ⟨pn 16 j (by decide), pn 17 j (by decide)⟩) (fun j _ _ => pn 15 j (by decide)) hi
    have hwa : yq_w c (yq_s Ia 15) := yq_w_cg hst hs15
    have e11 : Ia 11 = I 11 := funext fun j => pn 11 j (by decide)
    obtain ⟨Ic, c0, c1, c2⟩ := yNca15 (d := 0) (J := J) (R := R) (I := Ia) (N := N) (ca := I 98) (mo := I 96) (wi := I 97) (by omega) v7 v3 l2 hR.1 ((pn 3 7 (by decide)).trans v4) ((pn 3 6 (by decide)).trans v1) ((pn 10 4 (by decide)).trans l1) (by rw [e11]; exact hL) (fun r hr => by
      rw [pn 4 r (by decide), pn 5 r (by decide), pn 6 r (by decide)]
      exact v9 r hr) hwa
    refine ⟨Ic 15 4 - Ia 15 4, xq_upd (xq_upd (xq_upd Ic 78 1 0) 78 1 1) 78 1 2, ⟨xq_upd (xq_upd J 79 0 (Ic 15 5 - Ia 15 5).toInt64) 79 1 (ysum (Ic 17) 8).toInt64, R, ?_⟩, fun I1' he hf hB1 J' R' hR' => ?_⟩
    · show xq_D xqP 7 147 [.ref 0, .int (Int32.ofNat N)] (I, J, R) = _
      rw [qX7_nights_eq, if_neg (fun z => by rw [xt_lt, bN, e0] at z; omega), if_pos (by rw [xt_le, bN, e30]; omega)]
      refine (hex (fun S1 => qX7_nights_h27 6 (Int32.ofNat N) S1)).trans ?_
      rw [qX7_nights_h27_eq, c0, xb_V1, yc_sum15, xb_I1, yc_tell2, xb_V1]
      show some (some (Value.int ((xq_upd (xq_upd (xq_upd Ic 78 1 0) 78 1 1) 78 1 2) 15 4 - Ia 15 4)), _) = _
      rw [xu_k (by decide), xu_k (by decide), xu_k (by decide)]
    · have g1 : ∀ k j, xv k j = true → ¬ k = 78 → I1' k j = Ic k j := fun k j h1 h2 => by rw [he k j h1, xq_upd_n (by omega), xq_upd_n (by omega), xq_upd_n (by omega)]
      have g : ∀ k j, xv k j = true → (k ≤ 6 ∨ 10 ≤ k) → ¬ k = 13 → k ≤ 14 ∨ 62 ≤ k → ¬ k = 78 → ¬ (k = 3 ∧ (j = 10 ∨ j = 11)) → I1' k j = I k j := fun k j h1 h2 h3 h4 h5 h6 => by rw [g1 k j h1 h5, c2 k j (by omega) (by omega) (by omega) h3 (by omega) h6 (by omega), pn k j (by omega)]
      have q24 : xq_upd I1' 94 11 0 94 24 = Int32.ofNat sz := by rw [xu_j (by decide), g 94 24 rfl (by decide) (by decide) (by decide) (by decide) (by decide), w5]
      obtain ⟨Ib, hex2, bn, bT, bF⟩ : ∃ Ib : Nat → Nat → Int32, (∀ K : xq_S → Option xq_O, (if Int32.ofNat N ≤ 0 then K (xq_upd I1' 94 11 0, J', R') else xq_bV (xq_D xqP 175 269 [.ref 94, .ref 95] (xq_upd I1' 94 11 0, J', R')) K) = K (Ib, J', R')) ∧ (∀ k j, ¬ k = 105 → ¬ (k = 94 ∧ j = 24) → Ib k j = xq_upd I1' 94 11 0 k j) ∧ (0 < N → Ib 94 24 = Int32.ofNat (if sz = 12 then 12 else sz + 1) ∧ ∀ j, j < (if sz = 12 then 12 else sz + 1) → ∀ i, i < 27 → Ib 105 (27 * j + i) = if j = (if sz = 12 then 12 else sz + 1) - 1 then xq_upd I1' 94 11 0 95 i else xq_upd I1' 94 11 0 105 (27 * (if sz = 12 then j + 1 else j) + i)) ∧ (N = 0 → Ib = xq_upd I1' 94 11 0) := by
        by_cases hz : N = 0
        · subst hz
          exact ⟨_, fun K => if_pos (by decide), fun _ _ _ _ => rfl, fun z => by omega, fun _ => rfl⟩
        · obtain ⟨Ib, r0, r1, r2, r3⟩ := yq_rem95 (d := 173) (J := J') (R := R') q24 w4
          exact ⟨Ib, fun K => by rw [if_neg (fun z => by rw [xt_le, bN, e0] at z; omega), r0, xb_V1], r2, fun _ => ⟨r1, r3⟩, fun z => absurd z hz⟩
      have bg : ∀ k j, xv k j = true → 80 ≤ k → ¬ k = 105 → ¬ (k = 94 ∧ (j = 24 ∨ j = 11)) → Ib k j = I k j := fun k j h1 h2 h3 h4 => by rw [bn k j h3 (by omega), xq_upd_n (by omega), g k j h1 (by omega) (by omega) (by omega) (by omega) (by omega)]
      have b95 : ∀ i, i < 27 → Ib 95 i = I 95 i := fun i hi => bg 95 i (y95_xv hi) (by first | decide | omega) (by first | decide | omega) (by first | decide | omega)
      have x102 : ∀ i, i < 40 → xv 102 i = true := fun i hi => xt_xv xL9 (Or.inr ⟨40, by decide, hi⟩)
      have x98 : ∀ i, i < 8 → xv 98 i = true ∧ xv 96 i = true ∧ xv 97 i = true := fun i hi => ⟨xt_xv xP9 (Or.inr ⟨8, by decide, hi⟩), xt_xv xP9 (Or.inr ⟨8, by decide, hi⟩), xt_xv xP9 (Or.inr ⟨8, by decide, hi⟩)⟩
      have hT0 : yk_t Ib 102 n0 40 = yk_t I 102 n0 40 := by
        funext p
        unfold yk_t
        by_cases hp : p < n0 ∧ p < 40
        · rw [if_pos hp, if_pos hp, bg 102 p (x102 p hp.2) (by first | decide | omega) (by first | decide | omega) (by first | decide | omega)]
        · rw [if_neg hp, if_neg hp]
      have b94 : ∀ j, xv 94 j = true → ¬ j = 24 → ¬ j = 11 → Ib 94 j = I 94 j := fun j h1 h2 h3 => bg 94 j h1 (by first | decide | omega) (by first | decide | omega) (by omega)
      have h21 : I 94 21 = 0 := by
        obtain ⟨h1, h2⟩ := hB.1.2.2.2.2.2.2.1
        rw [xt_eq, e0]
        omega
      have hFr : yrF 95 n c n0 Ib R' := ⟨(b94 1 rfl (by first | decide | omega) (by first | decide | omega)).trans v5, (b94 3 rfl (by first | decide | omega) (by first | decide | omega)).trans v2, (b94 20 rfl (by first | decide | omega) (by first | decide | omega)).trans l3, (b94 21 rfl (by first | decide | omega) (by first | decide | omega)).trans h21, hR'.2.2.1, fun i hi => by rw [bg 102 i (x102 i hi) (by first | decide | omega) (by first | decide | omega) (by first | decide | omega)]; exact hB.1.2.2.2.2.2.2.2.2.2 i hi, fun i hi => by rw [b95 i (by omega)]; have := v11.1 i hi; omega⟩
      obtain ⟨Id, Rd, d0, d1, d2, d3⟩ := yNra95 (d := 0) (J := J') (N := N) (by omega) v7 v3 l4 hFr (by rw [hT0]; exact hL) (yq_w_cg b95 v11)
      have k94 : Id 94 3 = Int32.ofNat c := (d2 94 3 (by first | decide | omega) (by first | decide | omega) (by first | decide | omega) (by first | decide | omega) (by first | decide | omega)).trans ((b94 3 rfl (by first | decide | omega) (by first | decide | omega)).trans v2)
      have hbe : Ib 94 2 = I 3 8 := (b94 2 rfl (by first | decide | omega) (by first | decide | omega)).trans v8
      have h5 : ∀ r, r < 8 → Ib 98 r = I 98 r ∧ Ib 96 r = I 96 r ∧ Ib 97 r = I 97 r := fun r hr => ⟨bg 98 r (x98 r hr).1 (by first | decide | omega) (by first | decide | omega) (by first | decide | omega), bg 96 r (x98 r hr).2.1 (by first | decide | omega) (by first | decide | omega) (by first | decide | omega), bg 97 r (x98 r hr).2.2 (by first | decide | omega) (by first | decide | omega) (by first | decide | omega)⟩
      have hmain : ∀ i, i < 27 → Id 95 i = yq_s Ic 15 i := fun i hi => by
        rw [d1 i hi, c1 i hi, hbe, pn 3 8 (by first | decide | omega)]
        exact yNN_cg v3 v7 h5 N _ _ (fun i hi => (b95 i hi).trans ((v10 i hi).trans (hst i hi).symm)) (yq_w_cg b95 v11) i hi
      refine ⟨Id 95 25 - Ib 95 25, xq_upd (xq_upd (xq_upd Id 94 10 0) 94 10 1) 94 10 2, ⟨xq_upd (xq_upd J' 100 0 (Id 95 26 - Ib 95 26).toInt64) 100 1 (ysum (fun r => xq_upd (xq_upd Id 94 10 0) 94 10 (Int32.ofNat (0 + 1)) 95 (8 + r)) c).toInt64, Rd, ?_⟩, fun _ => ?_, fun I2' he2 hf2 hB2 => ?_⟩
      · show xq_D xqP 176 258 [.ref 94, .int (Int32.ofNat N)] (I1', J', R') = _
        rw [qX8_nights_eq]
        show xq_bI (xq_D xqP 175 235 [.int (Int32.ofNat N), .int 0, .int 30] (xq_upd I1' 94 11 0, J', R')) _ = _
        rw [xe_in, xb_I1, e0, e30, if_pos hA, if_pos (by first | decide | omega)]
        refine (hex2 (fun S1 => qX8_nights_h29 175 (Int32.ofNat N) S1)).trans ?_
        rw [qX8_nights_h29_eq, d0, xb_V1, yr_tell (I := xq_upd Id 94 10 0) (n := 0) xu_t (by first | decide | omega), xb_V1, yr_sum95 (c := c) (by rw [xu_j (by first | decide | omega), xu_j (by first | decide | omega)]; exact k94) v3, xb_I1, yr_tell (n := 1) xu_t (by first | decide | omega), xb_V1]
        show some (some (Value.int ((xq_upd (xq_upd (xq_upd Id 94 10 0) 94 10 (Int32.ofNat (0 + 1))) 94 10 (Int32.ofNat (1 + 1))) 95 25 - Ib 95 25)), _) = _
        rw [xu_k (by first | decide | omega), xu_k (by first | decide | omega), xu_k (by first | decide | omega)]
        rfl
      · rw [hmain 25 (by first | decide | omega), yq_s_25, b95 25 (by first | decide | omega), v10 25 (by first | decide | omega), yq_s_25, pn 15 4 (by first | decide | omega)]
      · have t0 : ∀ k j, xv k j = true → ¬ (k = 94 ∧ j = 10) → I2' k j = Id k j := fun k j h1 h2 => by rw [he2 k j h1, xq_upd_n h2, xq_upd_n h2, xq_upd_n h2]
        have t : ∀ k j, xv k j = true → ¬ 94 ≤ k → I2' k j = I1' k j := fun k j h1 h2 => by rw [t0 k j h1 (by omega), d2 k j (by omega) (by omega) (by omega) (by omega) (by omega), bn k j (by omega) (by omega), xq_upd_n (by omega)]
        have s : ∀ k j, xv k j = true → ySA k j ∨ k = 24 → I2' k j = Ia k j := fun k j h1 h2 => by
          have h3 : 24 ≤ k ∧ k ≤ 61 := by
            rcases h2 with h2 | h2
            · obtain ⟨a, b, -⟩ := h2
              omega
            · omega
          rw [t k j h1 (by omega), g1 k j h1 (by omega), c2 k j (by omega) (by omega) (by omega) (by omega) (by omega) (by omega) (by omega)]
        have t95 : ∀ i, i < 27 → I2' 95 i = Id 95 i := fun i hi => t0 95 i (y95_xv hi) (by omega)
        have e36 : I2' 3 6 = I 3 6 := (t 3 6 rfl (by first | decide | omega)).trans (g 3 6 rfl (by first | decide | omega) (by first | decide | omega) (by first | decide | omega) (by first | decide | omega) (by first | decide | omega))
        have key := yNP (I := I) (I2' := I2') (hN := decide (0 < N)) v1 v3 hW v10 v11 e36 (fun i hi => by
          rw [t95 i hi, hmain i hi]
          refine (yq_s_cg (fun j hj => ⟨?_, ?_⟩) (fun j h1 h2 => ?_) hi).symm
          · rw [t 16 j (y16_xv hj) (by first | decide | omega), g1 16 j (y16_xv hj) (by first | decide | omega)]
          · rw [t 17 j (y17_xv hj) (by first | decide | omega), g1 17 j (y17_xv hj) (by first | decide | omega)]
          · rw [t 15 j (y15_xv h1 h2) (by first | decide | omega), g1 15 j (y15_xv h1 h2) (by first | decide | omega)]) (yq_w_cg (fun i hi => (t95 i hi).trans (d1 i hi)) (yNN_w v3 v7 N _ (yq_w_cg b95 v11))) (fun hz => by
          have hz : N = 0 := by
            have := of_decide_eq_false hz
            omega
          have hIa := pF hz
          have hIb := bF hz
          refine ⟨by rw [s 24 1 rfl (Or.inr rfl), hIa], by rw [s 24 2 rfl (Or.inr rfl), hIa], ?_, fun k j h => by rw [s k j (ySA_xv h) (Or.inl h), hIa], fun j hj => ?_⟩
          · rw [t0 94 24 rfl (by first | decide | omega), d2 94 24 (by first | decide | omega) (by first | decide | omega) (by first | decide | omega) (by first | decide | omega) (by first | decide | omega), hIb, q24, w5]
          · rw [t0 105 j (y105_xv hj) (by first | decide | omega), d2 105 j (by first | decide | omega) (by first | decide | omega) (by first | decide | omega) (by omega) (by omega), hIb, xu_k (by first | decide | omega), g 105 j (y105_xv hj) (by first | decide | omega) (by first | decide | omega) (by first | decide | omega) (by first | decide | omega) (by first | decide | omega)]) (fun hz => by
          have hz : 0 < N := of_decide_eq_true hz
          obtain ⟨p1, p2, p3⟩ := pT hz
          obtain ⟨r1, r3⟩ := bT hz
          refine ⟨Ia, p1, p2, p3, s 24 1 rfl (Or.inr rfl), s 24 2 rfl (Or.inr rfl), fun k j h => s k j (ySA_xv h) (Or.inl h), ?_, fun j hj i hi => ?_⟩
          · rw [t0 94 24 rfl (by first | decide | omega), d2 94 24 (by first | decide | omega) (by first | decide | omega) (by first | decide | omega) (by first | decide | omega) (by first | decide | omega), r1]
          · have hj12 : j < 12 := by split at hj <;> omega
            rw [t0 105 _ (y105_xv (by omega)) (by first | decide | omega), d2 105 _ (by first | decide | omega) (by first | decide | omega) (by first | decide | omega) (by omega) (by omega), r3 j hj i hi]
            by_cases e : j = (if sz = 12 then 12 else sz + 1) - 1
            · rw [if_pos e, if_pos e, xu_k (by first | decide | omega), g 95 i (y95_xv hi) (by first | decide | omega) (by first | decide | omega) (by first | decide | omega) (by first | decide | omega) (by first | decide | omega)]
            · have hjb : 27 * (if sz = 12 then j + 1 else j) + i < 324 := by
                by_cases g : sz = 12
                · rw [if_pos g] at e hj ⊢
                  omega
                · rw [if_neg g]
                  omega
              rw [if_neg e, if_neg e, xu_k (by first | decide | omega), g 105 _ (y105_xv hjb) (by first | decide | omega) (by first | decide | omega) (by first | decide | omega) (by first | decide | omega) (by first | decide | omega)])
        exact yF_NA ym_nights hf hf2 hF key.1 key.2
  · refine ⟨-1, I, ⟨J, R, ?_⟩, fun I1' he hf hB1 J' R' hR' => ?_⟩
    · show xq_D xqP 7 147 [.ref 0, .int x] (I, J, R) = _
      rw [qX7_nights_eq]
      by_cases h1 : x < 0
      · rw [if_pos h1]
      · rw [if_neg h1, if_neg (fun z => by rw [xt_le, e30] at z; rw [xt_lt, e0] at h1; omega)]
    · refine ⟨-1, xq_upd I1' 94 11 0, ⟨J', R', ?_⟩, fun _ => rfl, fun I2' he2 hf2 hB2 => ?_⟩
      · show xq_D xqP 176 258 [.ref 94, .int x] (I1', J', R') = _
        rw [qX8_nights_eq]
        show xq_bI (xq_D xqP 175 235 [.int x, .int 0, .int 30] (xq_upd I1' 94 11 0, J', R')) _ = _
        rw [xe_in, xb_I1, e0, e30, if_neg hA, if_neg (by first | decide | omega)]
      · exact yF_xv (fun k j h1 h2 => by rw [he2 k j h1, xq_upd_n h2, he k j h1]) hF
end YU8
