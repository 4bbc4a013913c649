/-! easiest(), missed() -/
set_option maxRecDepth 100000 in
theorem ym_easiest : ym_0 k9X7_easiest k9X8_easiest = true := by decide +kernel
set_option maxRecDepth 100000 in
theorem ym_missed : ym_0 k9X7_missed k9X8_missed = true := by decide +kernel
section YU32
variable {d c n q n0 N : Nat} {I I' : Nat → Nat → Int32} {J : Nat → Nat → Int64} {R R' : Nat → Nat → Nat} {val : (Nat → Int32) → Int32} {CC : List Int32} {T : Nat → Int32} {be : Int32} {ca mo wi : Nat → Int32} {x y : Int32} {S : xq_S}
/-- a rota is told -/
theorem yc_trl {v : Int64} (hv : 0 ≤ v.toInt) (hn : n ≤ 8) : ∀ (m h : Nat) (I : Nat → Nat → Int32) (J : Nat → Nat → Int64), h + m = n → I 3 7 = Int32.ofNat n → I 78 1 = Int32.ofNat h → ∃ I' J', qX7_tellRota_h9 (d + 1) v (Int32.ofNat h) (I, J, R) = some (some (.int (Int32.ofNat (v.toInt / 16777216).toNat)), I', J', R) ∧ I' 78 1 = Int32.ofNat n
  | 0, h, I, J, hm, h7, h1 => by
    have e : h = n := by omega
    subst e
    have e : (I, J, R).1 3 7 = Int32.ofNat h := h7
    exact ⟨I, J, by rw [qX7_tellRota_h9_eq, e, if_pos (Int32.le_refl _), yd_pof hv, xb_I1], h1⟩
  | m + 1, h, I, J, hm, h7, h1 => by
    have e : (I, J, R).1 3 7 = Int32.ofNat n := h7
    have a1 : Int32.ofNat h + (1 : Int32) = Int32.ofNat (h + 1) := (Int32.ofNat_add h 1).symm
    rw [qX7_tellRota_h9_eq, e, if_neg (fun z => by have := (xr_le (by omega) (by omega)).mp z; omega), yd_rin hv (by omega), xb_I1, yc_add h1 (by omega), xb_V1, a1]
    exact yc_trl hv hn m (h + 1) _ _ (by omega) (by rw [xu_k (by decide)]; exact h7) xu_t
theorem yc_tr {v : Int64} (hv : 0 ≤ v.toInt) (hn : n ≤ 8) (h7 : I 3 7 = Int32.ofNat n) : ∃ I' J', xq_D xqP (d + 2) 174 [.ref 0, .long v] (I, J, R) = some (some (.int (Int32.ofNat (v.toInt / 16777216).toNat)), I', J', R) ∧ I' 78 1 = Int32.ofNat n := by
  rw [qX7_tellRota_eq, yc_clear, xb_V1]
  exact yc_trl hv hn n 0 _ _ (Nat.zero_add _) (by rw [xu_k (by decide)]; exact h7) xu_t
theorem yr_tll (hn : n ≤ 8) : ∀ (m h : Nat) (I : Nat → Nat → Int32) (J : Nat → Nat → Int64), h + m = n → I 94 1 = Int32.ofNat n → I 94 10 = Int32.ofNat h → ∃ I' J', qX8_tellLine_h7 (d + 1) (Int32.ofNat h) (I, J, R) = some (none, I', J', R) ∧ I' 94 10 = Int32.ofNat n
  | 0, h, I, J, hm, h7, h1 => by
    have e : h = n := by omega
    subst e
    have e : (I, J, R).1 94 1 = Int32.ofNat h := h7
    exact ⟨I, J, by rw [qX8_tellLine_h7_eq, e, if_pos (Int32.le_refl _)], h1⟩
  | m + 1, h, I, J, hm, h7, h1 => by
    have e : (I, J, R).1 94 1 = Int32.ofNat n := h7
    have a1 : Int32.ofNat h + (1 : Int32) = Int32.ofNat (h + 1) := (Int32.ofNat_add h 1).symm
    have b1 := xt_nat (n := h) (by omega)
    have b2 : (Int32.ofNat h).toInt.toNat = h := by omega
    rw [qX8_tellLine_h7_eq, e, if_neg (fun z => by have := (xr_le (by omega) (by omega)).mp z; omega), b2, b1, if_pos (by omega), yr_tell h1 (by omega), xb_V1, a1]
    exact yr_tll hn m (h + 1) _ _ (by omega) (by rw [xu_j (by decide)]; exact h7) xu_t
theorem yr_tl (hn : n ≤ 8) (h1 : I 94 1 = Int32.ofNat n) : ∃ I' J', xq_D xqP (d + 2) 288 [.ref 94] (I, J, R) = some (none, I', J', R) ∧ I' 94 10 = Int32.ofNat n := by
  rw [qX8_tellLine_eq]
  exact yr_tll hn n 0 _ _ (Nat.zero_add _) (by rw [xu_j (by decide)]; exact h1) xu_t
/-- the class's price is the reference's -/
theorem yE_price {v : Int64} {b : Int32} {ρ : Nat → Nat} (hc : c ≤ 8) (hρ : ∀ h, h < n → ρ h < c) (hb : 0 ≤ b.toInt) (hv : v.toInt = b.toInt * 16777216 + yd_N (fun h => if h < n then ρ h else 0)) : Int32.ofNat (v.toInt / 16777216).toNat = b := by
  have hr := yd_N_r (a := fun h => if h < n then ρ h else 0) (fun i hi => by
    show (if i < n then ρ i else 0) ≤ 7
    split
    · rename_i z
      have := hρ i z
      omega
    · omega)
  have e : (v.toInt / 16777216).toNat = b.toInt.toNat := by
    rw [hv]
    omega
  rw [e]
  have := Int32.toInt_lt b
  exact (xt_eq.mpr (by rw [xt_nat (by omega)]; omega)).symm
theorem yeasiestF (hF : yF I) (hB : yBG I) : yRm yBG 8 113 k9X7_easiest 175 203 k9X8_easiest [] True yF I := by
  refine yObs ym_easiest (by decide +kernel) hF (fun J R hR => ?_)
  obtain ⟨c, n, q, n0, val, hV, l2, l4, hL, hI, hw, hr⟩ := yOpen hF hB
  obtain ⟨v1, v2, v3, v4, v5, v6, v7, v8, v9, v10, v11⟩ := id hV
  have l1 := hI.2.2.2.1
  have l3 : I 94 20 = Int32.ofNat n0 := by
    have h := (hr I (xb_R zyI (fun _ _ => .null)) (fun _ _ _ _ _ => rfl) rfl).1.2.2.1
    exact h
  obtain ⟨v, Ic, Jc, c0, cf, cb, ce, cm⟩ := yE_c (d := 0) (J := J) (R := R) (wo := -1) hB.1 hV l2 hR.1 l1 hL
  have c0' : xq_D xqP 7 114 [.ref 0, .int (-1)] (I, J, R) = some (some (.long v), Ic, Jc, R) := c0
  have ref : ∀ (I1 : Nat → Nat → Int32) (J' : Nat → Nat → Int64) (R' : Nat → Nat → Nat), (∀ k j, xv k j = true → 94 ≤ k → I1 k j = I k j) → xz_R R' → ∃ b Ie Re, xq_D xqP 174 204 [.ref 94, .int (-1)] (xq_upd I1 94 11 0, J', R') = some (some (.int b), Ie, J', Re) ∧ yd_frR (xq_upd I1 94 11 0) Ie ∧ (0 ≤ b.toInt ∧ b.toInt ≤ yd_FAR) ∧ (b.toInt < yd_FAR → ∃ o, yOKR I n c (-1) o ∧ b.toInt = yd_Sr (yd_wh (yHD val I)) c c o) ∧ (∀ o, yOKR I n c (-1) o → b.toInt ≤ yd_Sr (yd_wh (yHD val I)) c c o) ∧ (∀ d' J' R'', yd_bs d' n c Ie J' R'' 0 (yd_cap c (I 96)) (yd_wh (yHD val I))) ∧ yd_ms c (2 ^ n - 1) Ie (yMR I n (-1)) (fun _ => 0) := fun I1 J' R' g hR' => by
    obtain ⟨b, Ie, Re, r0, r1, -, r3, r4, r5, r6, r7, -⟩ := yE_r (d := 0) (J := J') (R := R') (wo := -1) (I1 := xq_upd I1 94 11 0) hB hV l3 l4 hL (fun k j h1 h2 _ _ h3 => by rw [xq_upd_n (by omega)]; exact g k j h1 h2) hR'.2.2.1
    exact ⟨b, Ie, Re, r0, r1, r3, r4, r5, r6, r7⟩
  obtain ⟨b0, I0, R0, -, -, z3, z4, z5, z6, z7⟩ := ref I J R (fun _ _ _ _ => rfl) hR
  have hcmp := yE_cmp hV ce cm z4 z5
  have same : ∀ b : Int32, (0 ≤ b.toInt ∧ b.toInt ≤ yd_FAR) → (b.toInt < yd_FAR → ∃ o, yOKR I n c (-1) o ∧ b.toInt = yd_Sr (yd_wh (yHD val I)) c c o) → (∀ o, yOKR I n c (-1) o → b.toInt ≤ yd_Sr (yd_wh (yHD val I)) c c o) → b = b0 := fun b w3 w4 w5 => by
    rw [xt_eq]
    by_cases h : b.toInt < yd_FAR
    · obtain ⟨o, o1, o2⟩ := w4 h
      have h1 := z5 o o1
      by_cases h' : b0.toInt < yd_FAR
      · obtain ⟨o', o1', o2'⟩ := z4 h'
        have h2 := w5 o' o1'
        omega
      · omega
    · by_cases h' : b0.toInt < yd_FAR
      · obtain ⟨o', o1', o2'⟩ := z4 h'
        have h2 := w5 o' o1'
        omega
      · omega
  by_cases hN : v.toInt < yd_NO
  · have hbF := hcmp.1.mp hN
    obtain ⟨Il, ρ, s0, s1, s2, s3⟩ := yE_line (d := 0) (J := J) (R := R) v7 v3 z6 z7 hbF (z4 hbF) z5
    have hvn := hcmp.2 hbF ρ s3
    have hpr := yE_price v3 (fun h hh => s3.1 h (Nat.zero_le _) hh) z3.1 hvn
    obtain ⟨It, Jt, t0, -⟩ := yc_tr (d := 5) (I := Ic) (J := Jc) (R := R) cb.1 v7 ((cf 3 7 (by decide) (by decide) (by decide)).trans v4)
    refine ⟨b0, ⟨It, Jt, R, ?_⟩, fun I1 J' R' g hB1 hR' => ?_⟩
    · show xq_D xqP 8 113 [.ref 0] (I, J, R) = _
      have t0' : xq_D xqP 7 174 [.ref 0, .long v] (Ic, Jc, R) = some (some (.int (Int32.ofNat (v.toInt / 16777216).toNat)), It, Jt, R) := t0
      rw [qX7_easiest_eq, c0', xb_J1, if_pos (yl_no.mpr hN), t0', xb_I1, hpr]
    · obtain ⟨b, Ie, Re, r0, r1, r3, r4, r5, r6, r7⟩ := ref I1 J' R' g hR'
      have hb := same b r3 r4 r5
      subst hb
      obtain ⟨Il, ρ, s0, s1, s2, s3⟩ := yE_line (d := 169) (J := J') (R := Re) v7 v3 r6 r7 hbF (r4 hbF) r5
      have s0' : xq_D xqP 174 249 [.ref 94, .int 0, .int b] (Ie, J', Re) = some (none, Il, J', Re) := s0
      obtain ⟨Iu, Ju, u0, -⟩ := yr_tl (d := 172) (I := Il) (J := J') (R := Re) v7 (by
        rw [s1 94 1 (by decide) (by decide) (by decide)]
        exact (r6 0 J' Re).1)
      have u0' : xq_D xqP 174 288 [.ref 94] (Il, J', Re) = some (none, Iu, Ju, Re) := u0
      refine ⟨Iu, Ju, Re, ?_⟩
      show xq_D xqP 175 203 [.ref 94] (I1, J', R') = _
      rw [qX8_easiest_eq, r0, xb_I1, if_pos (yFAR_ne hbF), s0', xb_V1, u0', xb_V1]
  · refine ⟨-2, ⟨Ic, Jc, R, ?_⟩, fun I1 J' R' g hB1 hR' => ?_⟩
    · show xq_D xqP 8 113 [.ref 0] (I, J, R) = _
      rw [qX7_easiest_eq, c0', xb_J1, if_neg (fun z => hN (yl_no.mp z))]
    · obtain ⟨b, Ie, Re, r0, r1, r3, r4, r5, r6, r7⟩ := ref I1 J' R' g hR'
      have hcmp' := yE_cmp hV ce cm r4 r5
      have hb := yFAR_eq (fun z => hN (hcmp'.1.mpr z)) r3.2
      refine ⟨Ie, J', Re, ?_⟩
      show xq_D xqP 175 203 [.ref 94] (I1, J', R') = _
      rw [qX8_easiest_eq, r0, xb_I1, if_neg (fun z => z hb)]
/-- missed() -/
theorem ylno2 {x : Int64} : 0 ≤ (lg_cmp x (1152921504606846976 : Int64)) ↔ ¬ x.toInt < yd_NO := by
  rw [← yl_no, xt_lt, xt_le]
  omega
theorem ymissedF (hF : yF I) (hB : yBG I) : yRm yBG 8 146 k9X7_missed 175 255 k9X8_missed [x] True yF I := by
  refine yObs ym_missed (by decide +kernel) hF (fun J R hR => ?_)
  obtain ⟨c, n, q, n0, val, hV, l2, l4, hL, hI, hw, hr⟩ := yOpen hF hB
  obtain ⟨v1, v2, v3, v4, v5, v6, v7, v8, v9, v10, v11⟩ := id hV
  have l1 := hI.2.2.2.1
  have l3 : I 94 20 = Int32.ofNat n0 := (hr I (xb_R zyI (fun _ _ => .null)) (fun _ _ _ _ _ => rfl) rfl).1.2.2.1
  by_cases hx : 0 ≤ x.toInt ∧ x.toInt < (c : Int)
  · obtain ⟨v, Ic, Jc, c0, cf, cb, ce, cm⟩ := yE_c (d := 0) (J := J) (R := R) (wo := -1) hB.1 hV l2 hR.1 l1 hL
    have c0' : xq_D xqP 7 114 [.ref 0, .int (-1)] (I, J, R) = some (some (.long v), Ic, Jc, R) := c0
    obtain ⟨w, Id, Jd, d0, df, db, de, dm⟩ := yE_cx (d := 0) (I0 := Ic) (J := Jc) (R := R) (wo := x) hB.1 hV l2 hR.1 l1 hL cf
    have d0' : xq_D xqP 7 114 [.ref 0, .int x] (Ic, Jc, R) = some (some (.long w), Id, Jd, R) := d0
    -- the reference's two
    have ref : ∀ (I1 : Nat → Nat → Int32) (J' : Nat → Nat → Int64) (R' : Nat → Nat → Nat), (∀ k j, xv k j = true → 94 ≤ k → I1 k j = I k j) → xz_R R' → ∃ b Ie Re b2 Ig Rg, xq_D xqP 174 204 [.ref 94, .int (-1)] (xq_upd I1 94 11 0, J', R') = some (some (.int b), Ie, J', Re) ∧ xq_D xqP 174 204 [.ref 94, .int x] (Ie, J', Re) = some (some (.int b2), Ig, J', Rg) ∧ (0 ≤ b.toInt ∧ b.toInt ≤ yd_FAR) ∧ (v.toInt < yd_NO ↔ b.toInt < yd_FAR) ∧ (b.toInt < yd_FAR → Int32.ofNat (v.toInt / 16777216).toNat = b) ∧ (0 ≤ b2.toInt ∧ b2.toInt ≤ yd_FAR) ∧ (w.toInt < yd_NO ↔ b2.toInt < yd_FAR) ∧ (b2.toInt < yd_FAR → Int32.ofNat (w.toInt / 16777216).toNat = b2) := fun I1 J' R' g hR' => by
      obtain ⟨b, Ie, Re, r0, r1, r2, r3, r4, r5, r6, r7, -⟩ := yE_r (d := 0) (J := J') (R := R') (wo := -1) (I1 := xq_upd I1 94 11 0) hB hV l3 l4 hL (fun k j h1 h2 _ _ h3 => by rw [xq_upd_n (by omega)]; exact g k j h1 h2) hR'.2.2.1
      obtain ⟨b2, Ig, Rg, t0, t1, t2, t3, t4, t5, t6, t7, -⟩ := yE_r (d := 0) (J := J') (R := Re) (wo := x) (I1 := Ie) hB hV l3 l4 hL (fun k j h1 h2 h4 h5 h3 => by rw [r1 k j h4 h5 (by omega), xq_upd_n (by omega)]; exact g k j h1 h2) ((r2 94 18 (by decide)).trans hR'.2.2.1)
      have hcmp := yE_cmp hV ce cm r4 r5
      have hcmp2 := yE_cmp hV de dm t4 t5
      refine ⟨b, Ie, Re, b2, Ig, Rg, r0, t0, r3, hcmp.1, fun hbF => ?_, t3, hcmp2.1, fun hbF => ?_⟩
      · obtain ⟨Il, ρ, s0, s1, s2, s3⟩ := yE_line (d := 0) (J := J) (R := R) v7 v3 r6 r7 hbF (r4 hbF) r5
        exact yE_price v3 (fun h hh => s3.1 h (Nat.zero_le _) hh) r3.1 (hcmp.2 hbF ρ s3)
      · obtain ⟨Il, ρ, s0, s1, s2, s3⟩ := yE_line (d := 0) (J := J) (R := R) v7 v3 t6 t7 hbF (t4 hbF) t5
        exact yE_price v3 (fun h hh => s3.1 h (Nat.zero_le _) hh) t3.1 (hcmp2.2 hbF ρ s3)
    by_cases hv : v.toInt < yd_NO
    · by_cases hw2 : w.toInt < yd_NO
      · refine ⟨Int32.ofNat (w.toInt / 16777216).toNat - Int32.ofNat (v.toInt / 16777216).toNat, ⟨Id, Jd, R, ?_⟩, fun I1 J' R' g hB1 hR' => ?_⟩
        · show xq_D xqP 8 146 [.ref 0, .int x] (I, J, R) = _
          rw [qX7_missed_eq, yc_has v1 v3, xb_I1, if_pos hx, if_pos (by decide), c0', xb_J1, d0', xb_J1, if_neg (fun z => ylno2.mp z hv), if_pos (yl_no.mpr hw2), yd_pof db.1, xb_I1, yd_pof cb.1, xb_I1]
        · obtain ⟨b, Ie, Re, b2, Ig, Rg, r0, t0, r3, r4, r5, t3, t4, t5⟩ := ref I1 J' R' g hR'
          obtain ⟨h1, -⟩ := hr (xq_upd I1 94 11 0) R' (fun k j h1 h2 h3 => by rw [xq_upd_n h3]; exact g k j h1 h2) hR'.2.2.1
          refine ⟨Ig, J', Rg, ?_⟩
          show xq_D xqP 175 255 [.ref 94, .int x] (I1, J', R') = _
          rw [qX8_missed_eq, yr_man (I := xq_upd I1 94 11 0) h1.2.1 v3, xb_I1, if_pos hx, if_pos (by decide), r0, xb_I1, t0, xb_I1, if_neg (yFAR_ne (r4.mp hv)), if_pos (yFAR_ne (t4.mp hw2)), r5 (r4.mp hv), t5 (t4.mp hw2)]
      · refine ⟨-2, ⟨Id, Jd, R, ?_⟩, fun I1 J' R' g hB1 hR' => ?_⟩
        · show xq_D xqP 8 146 [.ref 0, .int x] (I, J, R) = _
          rw [qX7_missed_eq, yc_has v1 v3, xb_I1, if_pos hx, if_pos (by decide), c0', xb_J1, d0', xb_J1, if_neg (fun z => ylno2.mp z hv), if_neg (fun z => hw2 (yl_no.mp z))]
        · obtain ⟨b, Ie, Re, b2, Ig, Rg, r0, t0, r3, r4, r5, t3, t4, t5⟩ := ref I1 J' R' g hR'
          obtain ⟨h1, -⟩ := hr (xq_upd I1 94 11 0) R' (fun k j h1 h2 h3 => by rw [xq_upd_n h3]; exact g k j h1 h2) hR'.2.2.1
          refine ⟨Ig, J', Rg, ?_⟩
          show xq_D xqP 175 255 [.ref 94, .int x] (I1, J', R') = _
          rw [qX8_missed_eq, yr_man (I := xq_upd I1 94 11 0) h1.2.1 v3, xb_I1, if_pos hx, if_pos (by decide), r0, xb_I1, t0, xb_I1, if_neg (yFAR_ne (r4.mp hv)), if_neg (fun z => z (yFAR_eq (fun z => hw2 (t4.mpr z)) t3.2))]
    · refine ⟨-2, ⟨Id, Jd, R, ?_⟩, fun I1 J' R' g hB1 hR' => ?_⟩
      · show xq_D xqP 8 146 [.ref 0, .int x] (I, J, R) = _
        rw [qX7_missed_eq, yc_has v1 v3, xb_I1, if_pos hx, if_pos (by decide), c0', xb_J1, d0', xb_J1, if_pos (ylno2.mpr hv)]
      · obtain ⟨b, Ie, Re, b2, Ig, Rg, r0, t0, r3, r4, r5, t3, t4, t5⟩ := ref I1 J' R' g hR'
        obtain ⟨h1, -⟩ := hr (xq_upd I1 94 11 0) R' (fun k j h1 h2 h3 => by rw [xq_upd_n h3]; exact g k j h1 h2) hR'.2.2.1
        refine ⟨Ig, J', Rg, ?_⟩
        show xq_D xqP 175 255 [.ref 94, .int x] (I1, J', R') = _
        rw [qX8_missed_eq, yr_man (I := xq_upd I1 94 11 0) h1.2.1 v3, xb_I1, if_pos hx, if_pos (by decide), r0, xb_I1, t0, xb_I1, if_pos (yFAR_eq (fun z => hv (r4.mpr z)) r3.2)]
  · refine ⟨-1, ⟨I, J, R, ?_⟩, fun I1 J' R' g hB1 hR' => ⟨xq_upd I1 94 11 0, J', R', ?_⟩⟩
    · show xq_D xqP 8 146 [.ref 0, .int x] (I, J, R) = _
      rw [qX7_missed_eq, yc_has v1 v3, xb_I1, if_neg hx, if_neg (by decide)]
    · obtain ⟨h1, -⟩ := hr (xq_upd I1 94 11 0) R' (fun k j h1 h2 h3 => by rw [xq_upd_n h3]; exact g k j h1 h2) hR'.2.2.1
      show xq_D xqP 175 255 [.ref 94, .int x] (I1, J', R') = _
      rw [qX8_missed_eq, yr_man (I := xq_upd I1 94 11 0) h1.2.1 v3, xb_I1, if_neg hx, if_neg (by decide)]
end YU32
