/-! takes(): the round -/
def ytc (ρ : Nat → Nat) (s : Nat → Int32) : Nat → Nat → Int32 → Int32
  | 0, _, a => a
  | m + 1, h, a => ytc ρ s m (h + 1) (a + if s h = Int32.ofNat (ρ h) then 0 else 1)
theorem ytc_cg {ρ ρ' : Nat → Nat} {s s' : Nat → Int32} : ∀ (m h : Nat) (a : Int32), (∀ i, h ≤ i → i < h + m → ρ i = ρ' i ∧ s i = s' i) → ytc ρ s m h a = ytc ρ' s' m h a
  | 0, h, a, _ => rfl
  | m + 1, h, a, H => by
    obtain ⟨e1, e2⟩ := H h (Nat.le_refl _) (by omega)
    show ytc ρ s m (h + 1) (a + if s h = Int32.ofNat (ρ h) then 0 else 1) = ytc ρ' s' m (h + 1) (a + if s' h = Int32.ofNat (ρ' h) then 0 else 1)
    rw [e1, e2]
    exact ytc_cg m (h + 1) _ (fun i h1 h2 => H i (by omega) (by omega))
def yfq1 (k j : Nat) : Bool := decide (¬ k = 7 ∧ ¬ k = 13 ∧ ¬ (64 ≤ k ∧ k ≤ 74) ∧ ¬ k = 78 ∧ ¬ k = 79 ∧ ¬ k = 100 ∧ ¬ k = 104 ∧ ¬ k = 108 ∧ ¬ k = 109 ∧ ¬ (111 ≤ k ∧ k ≤ 118) ∧ ¬ (k = 94 ∧ (j = 10 ∨ j = 11 ∨ j = 13 ∨ j = 14 ∨ j = 15 ∨ j = 16 ∨ j = 27 ∨ j = 28)))
def yfq2 (k : Nat) : Bool := decide (¬ k = 7 ∧ ¬ k = 13 ∧ ¬ (64 ≤ k ∧ k ≤ 74) ∧ ¬ k = 78 ∧ ¬ k = 79 ∧ ¬ k = 100 ∧ ¬ k = 104 ∧ ¬ k = 108 ∧ ¬ k = 109 ∧ ¬ (111 ≤ k ∧ k ≤ 118) ∧ ¬ k = 94)
theorem yfq_12 : ∀ k j, yfq2 k = true → yfq1 k j = true := fun k j h => by
  obtain ⟨a1, a2, a3, a4, a5, a6, a7, a8, a9, a10, a11⟩ := of_decide_eq_true h
  exact decide_eq_true ⟨a1, a2, a3, a4, a5, a6, a7, a8, a9, a10, fun z => a11 z.1⟩
theorem yfq_ok : ypF yfq1 yfq2 = true := by decide +kernel
theorem yF_q {I I' : Nat → Nat → Int32} (h : ∀ k j, xv k j = true → ¬ k = 7 → ¬ k = 13 → ¬ (64 ≤ k ∧ k ≤ 74) → ¬ k = 78 → ¬ k = 104 → ¬ (111 ≤ k ∧ k ≤ 118) → ¬ (k = 94 ∧ (j = 10 ∨ j = 11 ∨ j = 13 ∨ j = 14 ∨ j = 15 ∨ j = 16)) → I' k j = I k j) (hF : yF I) : yF I' := yF_p yfq_12 yfq_ok (fun k j h1 h2 => by
  obtain ⟨a1, a2, a3, a4, a5, a6, a7, a8, a9, a10, a11⟩ := of_decide_eq_true h2
  exact h k j h1 a1 a2 a3 a4 a7 a10 (fun z => a11 ⟨z.1, by omega⟩)) hF
set_option maxRecDepth 100000 in
theorem ym_takes : ym_NA k9X7_takes k9X8_takes = true := by decide +kernel
section YU25
variable {d c n q n0 nx sz : Nat} {I : Nat → Nat → Int32} {J : Nat → Nat → Int64} {R : Nat → Nat → Nat}
theorem yc_tkl {v : Int64} {ρ : Nat → Nat} {s : Nat → Int32} (hv : 0 ≤ v.toInt) (hn : n ≤ 8) (hρ : ∀ h, h < n → yd_dg v.toInt h = ρ h) : ∀ (m h : Nat) (a : Int32) (I : Nat → Nat → Int32), h + m = n → I 3 7 = Int32.ofNat n → (∀ i, h ≤ i → i < n → I 16 i = s i) → ∃ I', qX7_takes_h33 (d + 1) v a (Int32.ofNat h) (I, J, R) = some (some (.int (ytc ρ s m h a)), I', J, R) ∧ (∀ i, h ≤ i → i < n → I' 16 i = Int32.ofNat (ρ i)) ∧ (∀ i, ¬ (h ≤ i ∧ i < n) → I' 16 i = I 16 i) ∧ ∀ k j, ¬ k = 16 → I' k j = I k j
  | 0, h, a, I, hm, h7, hs => by
    have e : h = n := by omega
    subst e
    have e : (I, J, R).1 3 7 = Int32.ofNat h := h7
    refine ⟨I, ?_, fun i h1 h2 => by omega, fun _ _ => rfl, fun _ _ _ => rfl⟩
    rw [qX7_takes_h33_eq, e, if_pos (Int32.le_refl _)]
    rfl
  | m + 1, h, a, I, hm, h7, hs => by
    have e : (I, J, R).1 3 7 = Int32.ofNat n := h7
    have a1 : Int32.ofNat h + (1 : Int32) = Int32.ofNat (h + 1) := (Int32.ofNat_add h 1).symm
    have b1 := xt_nat (n := h) (by omega)
    have b2 : (Int32.ofNat h).toInt.toNat = h := by omega
    have b8 : 0 ≤ (h : Int) ∧ (h : Int) < ((8 : Nat) : Int) := by omega
    have es : (I, J, R).1 16 h = s h := hs h (Nat.le_refl _) (by omega)
    obtain ⟨I', g0, g1, g2, g3⟩ := yc_tkl (s := s) hv hn hρ m (h + 1) (a + if s h = Int32.ofNat (ρ h) then 0 else 1) (xq_upd I 16 h (Int32.ofNat (ρ h))) (by omega) (by rw [xu_k (by decide)]; exact h7) (fun i h1 h2 => by rw [xu_j (by omega)]; exact hs i (by omega) h2)
    refine ⟨I', ?_, fun i h1 h2 => ?_, fun i h1 => ?_, fun k j h1 => by rw [g3 k j h1, xu_k h1]⟩
    · rw [qX7_takes_h33_eq, e, if_neg (fun z => by have := (xr_le (by omega) (by omega)).mp z; omega), yd_rin hv (by omega), xb_I1, hρ h (by omega), b2, b1, if_pos b8, es]
      by_cases g : s h = Int32.ofNat (ρ h)
      · rw [if_neg (fun z => z g), qX7_takes_h74_eq, b2, b1, if_pos b8, a1]
        rw [if_pos g] at g0
        rw [show ytc ρ s (m + 1) h a = ytc ρ s m (h + 1) (a + 0) from by rw [ytc, if_pos g]]
        exact g0
      · rw [if_pos g, qX7_takes_h74_eq, b2, b1, if_pos b8, a1]
        rw [if_neg g] at g0
        rw [show ytc ρ s (m + 1) h a = ytc ρ s m (h + 1) (a + 1) from by rw [ytc, if_neg g]]
        exact g0
    · by_cases e : i = h
      · subst e
        rw [g2 i (by omega), xu_t]
      · exact g1 i (by omega) h2
    · rw [g2 i (by omega), xu_j (by omega)]
theorem yr_tkl {ρ : Nat → Nat} {s : Nat → Int32} (hn : n ≤ 8) : ∀ (m h : Nat) (a : Int32) (I : Nat → Nat → Int32), h + m = n → I 94 1 = Int32.ofNat n → (∀ i, i < n → I 118 i = Int32.ofNat (ρ i)) → (∀ i, h ≤ i → i < n → I 95 i = s i) → ∃ I', qX8_takes_h38 d a (Int32.ofNat h) (I, J, R) = some (some (.int (ytc ρ s m h a)), I', J, R) ∧ (∀ i, h ≤ i → i < n → I' 95 i = Int32.ofNat (ρ i)) ∧ (∀ i, ¬ (h ≤ i ∧ i < n) → I' 95 i = I 95 i) ∧ ∀ k j, ¬ k = 95 → I' k j = I k j
  | 0, h, a, I, hm, h1, hl, hs => by
    have e : h = n := by omega
    subst e
    have e : (I, J, R).1 94 1 = Int32.ofNat h := h1
    refine ⟨I, ?_, fun i h1 h2 => by omega, fun _ _ => rfl, fun _ _ _ => rfl⟩
    rw [qX8_takes_h38_eq, e, if_pos (Int32.le_refl _)]
    rfl
  | m + 1, h, a, I, hm, h1, hl, hs => by
    have e : (I, J, R).1 94 1 = Int32.ofNat n := h1
    have a1 : Int32.ofNat h + (1 : Int32) = Int32.ofNat (h + 1) := (Int32.ofNat_add h 1).symm
    have b1 := xt_nat (n := h) (by omega)
    have b2 : (Int32.ofNat h).toInt.toNat = h := by omega
    have b8 : 0 ≤ (h : Int) ∧ (h : Int) < ((8 : Nat) : Int) := by omega
    have b27 : 0 ≤ (h : Int) ∧ (h : Int) < ((27 : Nat) : Int) := by omega
    have es : (I, J, R).1 95 h = s h := hs h (Nat.le_refl _) (by omega)
    have el : (I, J, R).1 118 h = Int32.ofNat (ρ h) := hl h (by omega)
    obtain ⟨I', g0, g1, g2, g3⟩ := yr_tkl (s := s) hn m (h + 1) (a + if s h = Int32.ofNat (ρ h) then 0 else 1) (xq_upd I 95 h (Int32.ofNat (ρ h))) (by omega) (by rw [xu_k (by decide)]; exact h1) (fun i h2 => by rw [xu_k (by decide)]; exact hl i h2) (fun i h1 h2 => by rw [xu_j (by omega)]; exact hs i (by omega) h2)
    refine ⟨I', ?_, fun i h1 h2 => ?_, fun i h1 => ?_, fun k j h1 => by rw [g3 k j h1, xu_k h1]⟩
    · rw [qX8_takes_h38_eq, e, if_neg (fun z => by have := (xr_le (by omega) (by omega)).mp z; omega), b2, b1, if_pos b27, if_pos b8, es, el]
      by_cases g : s h = Int32.ofNat (ρ h)
      · rw [if_neg (fun z => z g), qX8_takes_h67_eq, b2, b1, if_pos b8, if_pos b27, a1, el]
        rw [if_pos g] at g0
        rw [show ytc ρ s (m + 1) h a = ytc ρ s m (h + 1) (a + 0) from by rw [ytc, if_pos g]]
        exact g0
      · rw [if_pos g, qX8_takes_h67_eq, b2, b1, if_pos b8, if_pos b27, a1, el]
        rw [if_neg g] at g0
        rw [show ytc ρ s (m + 1) h a = ytc ρ s m (h + 1) (a + 1) from by rw [ytc, if_neg g]]
        exact g0
    · by_cases e : i = h
      · subst e
        rw [g2 i (by omega), xu_t]
      · exact g1 i (by omega) h2
    · rw [g2 i (by omega), xu_j (by omega)]
theorem yFAR_ne {b : Int32} (h : b.toInt < yd_FAR) : ¬ b = 1000000000 := fun z => by
  rw [z] at h
  exact absurd h (by decide)
theorem yFAR_eq {b : Int32} (h : ¬ b.toInt < yd_FAR) (h2 : b.toInt ≤ yd_FAR) : b = 1000000000 := by
  have e : (1000000000 : Int32).toInt = 1000000000 := by decide
  unfold yd_FAR at h h2
  rw [xt_eq, e]
  omega
theorem ytakesF (hF : yF I) (hB : yBG I) : yRm yBG 8 172 k9X7_takes 175 286 k9X8_takes [] True yF I := by
  refine yRm_mk fun J R hR => ?_
  obtain ⟨c, n, hV⟩ := yV_of hF hB.1
  obtain ⟨v1, v2, v3, v4, v5, v6, v7, v8, v9, v10, v11⟩ := id hV
  obtain ⟨nx, sz, w1, w2, w3, w4, w5, w6⟩ := yPa_of hF.2.2.2.2.1 v1 v3
  obtain ⟨q, n0, val, l1, l2, l3, l4, hL⟩ := yLv_of hF.2.2.1
  obtain ⟨v, Ic, Jc, c0, cf, cb, ce, cm⟩ := yE_c (d := 0) (J := J) (R := R) (wo := -1) hB.1 hV l2 hR.1 l1 hL
  have c0' : xq_D xqP 7 114 [.ref 0, .int (-1)] (I, J, R) = some (some (.long v), Ic, Jc, R) := c0
  by_cases hN : v.toInt < yd_NO
  · obtain ⟨Ip, p0, p1, p2, p3⟩ := yq_push15 (d := 5) (J := Jc) (R := R) ((cf 24 1 (by decide) (by decide) (by decide)).trans w1) w2 ((cf 24 2 (by decide) (by decide) (by decide)).trans w3) w4
    have pn : ∀ k j, k ≤ 23 ∨ 62 ≤ k → ¬ k = 7 → ¬ k = 13 → ¬ (64 ≤ k ∧ k ≤ 68) → Ip k j = I k j := fun k j h h1 h2 h3 => ((p3 k j (by omega)).trans (yq_cpn (by omega))).trans (cf k j h1 h2 h3)
    obtain ⟨Id, t0, t1, t2, t3⟩ := yc_tkl (d := 6) (J := Jc) (R := R) (v := v) (ρ := yd_dg v.toInt) (s := I 16) cb.1 v7 (fun _ _ => rfl) n 0 0 Ip (Nat.zero_add _) ((pn 3 7 (by decide) (by decide) (by decide) (by decide)).trans v4) (fun i _ _ => pn 16 i (by decide) (by decide) (by decide) (by decide))
    have t0' : qX7_takes_h33 7 v 0 0 (Ip, Jc, R) = some (some (.int (ytc (yd_dg v.toInt) (I 16) n 0 0)), Id, Jc, R) := t0
    refine ⟨ytc (yd_dg v.toInt) (I 16) n 0 0, Id, ⟨Jc, R, ?_⟩, fun I1' he hf hB1 J' R' hR' => ?_⟩
    · show xq_D xqP 8 172 [.ref 0] (I, J, R) = _
      rw [qX7_takes_eq, c0', xb_J1, if_pos (yl_no.mpr hN), p0, xb_V1, t0']
    · have g : ∀ k j, xv k j = true → k ≤ 23 ∨ 62 ≤ k → ¬ k = 7 → ¬ k = 13 → ¬ (64 ≤ k ∧ k ≤ 68) → ¬ k = 16 → I1' k j = I k j := fun k j h1 h2 h3 h4 h5 h6 => by rw [he k j h1, t3 k j h6, pn k j h2 h3 h4 h5]
      obtain ⟨b, Ie, Re, r0, r1, r2, r3, r4, r5, r6, r7, -⟩ := yE_r (d := 0) (J := J') (R := R') (wo := -1) (I1 := xq_upd I1' 94 11 0) hB hV l3 l4 hL (fun k j h1 h2 _ _ h3 => by rw [xq_upd_n (by omega)]; exact g k j h1 (by omega) (by omega) (by omega) (by omega) (by omega)) hR'.2.2.1
      have r0' : xq_D xqP 174 204 [.ref 94, .int (-1)] (xq_upd I1' 94 11 0, J', R') = some (some (.int b), Ie, J', Re) := r0
      have hcmp := yE_cmp hV ce cm r4 r5
      have hbF := hcmp.1.mp hN
      obtain ⟨Il, ρ, s0, s1, s2, s3⟩ := yE_line (d := 169) (J := J') (R := Re) v7 v3 r6 r7 hbF (r4 hbF) r5
      have s0' : xq_D xqP 174 249 [.ref 94, .int 0, .int b] (Ie, J', Re) = some (none, Il, J', Re) := s0
      have hvn := hcmp.2 hbF ρ s3
      have hρ : ∀ h, h < n → ρ h < c := fun h hh => s3.1 h (Nat.zero_le _) hh
      have dg : ∀ h, h < n → yd_dg v.toInt h = ρ h := fun h hh => by
        rw [yd_dgN (a := fun h => if h < n then ρ h else 0) (fun i hi => by
          show (if i < n then ρ i else 0) ≤ 7
          split
          · rename_i z
            have := hρ i z
            omega
          · omega) r3.1 hvn (by omega)]
        exact if_pos hh
      have gl : ∀ k j, ¬ k = 104 → ¬ (111 ≤ k ∧ k ≤ 118) → ¬ (k = 94 ∧ (j = 11 ∨ j = 13 ∨ j = 14 ∨ j = 15 ∨ j = 16)) → Il k j = I1' k j := fun k j h1 h2 h3 => by rw [s1 k j (by omega) (by omega) (by omega), r1 k j h1 h2 (by omega), xq_upd_n (by omega)]
      have g95 : ∀ i, i < 27 → I1' 95 i = I 95 i := fun i hi => g 95 i (y95_xv hi) (by decide) (by decide) (by decide) (by decide) (by decide)
      obtain ⟨Ir, m0, m1, m2, m3⟩ := yq_rem95 (d := 172) (I := Il) (J := J') (R := Re) (by rw [gl 94 24 (by decide) (by decide) (by decide), g 94 24 rfl (by decide) (by decide) (by decide) (by decide) (by decide), w5]) w4
      obtain ⟨It, u0, u1, u2, u3⟩ := yr_tkl (d := 174) (J := J') (R := Re) (ρ := ρ) (s := I 95) v7 n 0 0 Ir (Nat.zero_add _) (by rw [m2 94 1 (by decide) (by decide), gl 94 1 (by decide) (by decide) (by decide), g 94 1 rfl (by decide) (by decide) (by decide) (by decide) (by decide), v5]) (fun i hi => by rw [m2 118 i (by decide) (by omega), s2 i hi]) (fun i _ hi => by rw [m2 95 i (by decide) (by omega), gl 95 i (by decide) (by decide) (by omega), g95 i (by omega)])
      have u0' : qX8_takes_h38 174 0 0 (Ir, J', Re) = some (some (.int (ytc ρ (I 95) n 0 0)), It, J', Re) := u0
      refine ⟨ytc ρ (I 95) n 0 0, It, ⟨J', Re, ?_⟩, fun _ => ?_, fun I2' he2 hf2 hB2 => ?_⟩
      · show xq_D xqP 175 286 [.ref 94] (I1', J', R') = _
        rw [qX8_takes_eq, r0', xb_I1, if_pos (yFAR_ne hbF), s0', xb_V1, m0, xb_V1, u0']
      · exact ytc_cg n 0 0 (fun i _ hi => ⟨dg i (by omega), by rw [v10 i (by omega), yq_s_1 (by omega)]⟩)
      · have t : ∀ k j, xv k j = true → k < 94 → I2' k j = I1' k j := fun k j h1 h2 => by rw [he2 k j h1, u3 k j (by omega), m2 k j (by omega) (by omega), gl k j (by omega) (by omega) (by omega)]
        have e36 : I2' 3 6 = I 3 6 := (t 3 6 rfl (by decide)).trans (g 3 6 rfl (by decide) (by decide) (by decide) (by decide) (by decide))
        have t95 : ∀ i, i < 27 → I2' 95 i = if i < n then Int32.ofNat (ρ i) else I 95 i := fun i hi => by
          rw [he2 95 i (y95_xv hi)]
          by_cases e : i < n
          · rw [if_pos e, u1 i (Nat.zero_le _) e]
          · rw [if_neg e, u2 i (by omega), m2 95 i (by decide) (by omega), gl 95 i (by decide) (by decide) (by omega), g95 i hi]
        have t16 : ∀ i, i < 8 → I2' 16 i = if i < n then Int32.ofNat (ρ i) else I 16 i := fun i hi => by
          rw [t 16 i (y16_xv hi) (by decide), he 16 i (y16_xv hi)]
          by_cases e : i < n
          · rw [if_pos e, t1 i (Nat.zero_le _) e, dg i e]
          · rw [if_neg e, t2 i (by omega), pn 16 i (by decide) (by decide) (by decide) (by decide)]
        have sA : ∀ k j, xv k j = true → ySA k j ∨ k = 24 → I2' k j = Ip k j := fun k j h1 h2 => by
          have h3 : 24 ≤ k ∧ k ≤ 61 := by
            rcases h2 with h2 | h2
            · obtain ⟨a, b, -⟩ := h2
              omega
            · omega
          rw [t k j h1 (by omega), he k j h1, t3 k j (by omega)]
        have hWc : yW Ic c nx sz := ⟨(cf 24 1 (by decide) (by decide) (by decide)).trans w1, w2, (cf 24 2 (by decide) (by decide) (by decide)).trans w3, w4, (cf 94 24 (by decide) (by decide) (by decide)).trans w5, fun j hj => ⟨fun i hi => by
          rw [cf 105 _ (by decide) (by decide) (by decide), (w6 j hj).1 i hi]
          exact (yq_s_cg (fun j hj => ⟨cf _ _ (by omega) (by omega) (by omega), cf _ _ (by omega) (by omega) (by omega)⟩) (fun j _ _ => cf _ _ (by omega) (by omega) (by omega)) hi).symm, yq_w_cg (fun i hi => cf 105 _ (by decide) (by decide) (by decide)) (w6 j hj).2⟩⟩
        refine yF_NA ym_takes hf hf2 hF ⟨c, e36.trans v1, v3, fun i hi => ?_, fun i hi => ?_, fun r hr => ?_⟩ ?_
        · rw [t95 i hi]
          by_cases hi8 : i < 8
          · rw [yq_s_1 hi8, t16 i hi8, v10 i hi, yq_s_1 hi8]
          · rw [if_neg (by omega), v10 i hi]
            refine (yq_s_hi (fun j hj => ?_) (fun j h1 h2 => ?_) (by omega) hi).symm
            · rw [t 17 j (y17_xv hj) (by decide), g 17 j (y17_xv hj) (by decide) (by decide) (by decide) (by decide) (by decide)]
            · rw [t 15 j (y15_xv h1 h2) (by decide), g 15 j (y15_xv h1 h2) (by decide) (by decide) (by decide) (by decide) (by decide)]
        · rw [t95 i (by omega)]
          by_cases e : i < n
          · rw [if_pos e, xt_nat (by have := hρ i e; omega)]
            have := hρ i e
            omega
          · rw [if_neg e]
            exact v11.1 i hi
        · rw [t95 (8 + r) (by omega), t95 (16 + r) (by omega), if_neg (by omega), if_neg (by omega)]
          exact v11.2 r hr
        · refine yPush (I := Ic) ((cf 3 6 (by decide) (by decide) (by decide)).trans v1) v3 hWc (fun i hi => by
            rw [v10 i hi]
            exact (yq_s_cg (fun j _ => ⟨cf 16 j (by decide) (by decide) (by decide), cf 17 j (by decide) (by decide) (by decide)⟩) (fun j _ _ => cf 15 j (by decide) (by decide) (by decide)) hi).symm) v11 p1 p2 p3 (sA 24 1 rfl (Or.inr rfl)) (sA 24 2 rfl (Or.inr rfl)) (fun k j h => sA k j (ySA_xv h) (Or.inl h)) (e36.trans (cf 3 6 (by decide) (by decide) (by decide)).symm) ?_ (fun j hj i hi => ?_)
          · rw [he2 94 24 rfl, u3 94 24 (by decide), m1]
          · have hj12 : j < 12 := by split at hj <;> omega
            rw [he2 105 _ (y105_xv (by omega)), u3 105 _ (by decide), m3 j hj i hi]
            by_cases e : j = (if sz = 12 then 12 else sz + 1) - 1
            · rw [if_pos e, if_pos e, gl 95 i (by decide) (by decide) (by omega), g95 i hi]
            · have hjb : 27 * (if sz = 12 then j + 1 else j) + i < 324 := by
                by_cases g : sz = 12
                · rw [if_pos g] at e hj ⊢
                  omega
                · rw [if_neg g]
                  omega
              rw [if_neg e, if_neg e, gl 105 _ (by decide) (by decide) (by omega), g 105 _ (y105_xv hjb) (by decide) (by decide) (by decide) (by decide) (by decide), cf 105 _ (by decide) (by decide) (by decide)]
  · refine ⟨-2, Ic, ⟨Jc, R, ?_⟩, fun I1' he hf hB1 J' R' hR' => ?_⟩
    · show xq_D xqP 8 172 [.ref 0] (I, J, R) = _
      rw [qX7_takes_eq, c0', xb_J1, if_neg (fun z => hN (yl_no.mp z))]
    · have g : ∀ k j, xv k j = true → ¬ k = 7 → ¬ k = 13 → ¬ (64 ≤ k ∧ k ≤ 68) → I1' k j = I k j := fun k j h1 h3 h4 h5 => by rw [he k j h1, cf k j h3 h4 h5]
      obtain ⟨b, Ie, Re, r0, r1, r2, r3, r4, r5, r6, r7, -⟩ := yE_r (d := 0) (J := J') (R := R') (wo := -1) (I1 := xq_upd I1' 94 11 0) hB hV l3 l4 hL (fun k j h1 h2 _ _ h3 => by rw [xq_upd_n (by omega)]; exact g k j h1 (by omega) (by omega) (by omega)) hR'.2.2.1
      have r0' : xq_D xqP 174 204 [.ref 94, .int (-1)] (xq_upd I1' 94 11 0, J', R') = some (some (.int b), Ie, J', Re) := r0
      have hcmp := yE_cmp hV ce cm r4 r5
      have hb := yFAR_eq (fun z => hN (hcmp.1.mpr z)) r3.2
      refine ⟨-2, Ie, ⟨J', Re, ?_⟩, fun _ => rfl, fun I2' he2 hf2 hB2 => ?_⟩
      · show xq_D xqP 175 286 [.ref 94] (I1', J', R') = _
        rw [qX8_takes_eq, r0', xb_I1, if_neg (fun z => z hb)]
      · refine yF_q (fun k j h1 h2 h3 h4 h5 h6 h7 h8 => ?_) hF
        rw [he2 k j h1, r1 k j h6 h7 (by omega), xq_upd_n (by omega), g k j h1 h2 h3 (by omega)]
end YU25
