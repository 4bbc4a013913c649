/-! A NIGHT as one step of states, of dream and then -/
section YU4C21
variable {C : List Int32} {T : Nat → Int32} {n0 n c q d : Nat} {val : (Nat → Int32) → Int32} {ca mo wi : Nat → Int32} {I : Nat → Nat → Int32} {J : Nat → Nat → Int64} {R : Nat → Nat → Nat}
theorem yNc21 (hn : n ≤ 8) (hc : c ≤ 8) (hq : q ≤ 40) (hR : R 3 9 = 10) (i1 : I 3 7 = Int32.ofNat n) (i2 : I 3 6 = Int32.ofNat c) (i4 : I 10 4 = Int32.ofNat q) (hL : yLv (yv_c (I 11) q) T n0 val) (hr : ∀ r, r < c → I 4 r = ca r ∧ I 5 r = mo r ∧ I 6 r = wi r) (hw : yq_w c (yq_s I 21)) : ∃ I', xq_D xqP (d + 5) 25 [.ref 3, .ref 21] (I, J, R) = some (none, I', J, R) ∧ (∀ i, i < 27 → yq_s I' 21 i = yNt n c (I 3 8) ca mo wi val (yq_s I 21) i) ∧ I' 3 10 = (yNg n (I 3 8) ca mo wi (yq_s I 21)).1 ∧ I' 3 11 = (yNg n (I 3 8) ca mo wi (yq_s I 21)).2.1 ∧ ∀ k j, ¬ k = 7 → ¬ k = 8 → ¬ k = 9 → ¬ k = 13 → ¬ k = 23 → ¬ (k = 3 ∧ (j = 10 ∨ j = 11)) → ¬ (k = 21 ∧ (j = 3 ∨ j = 4 ∨ j = 5)) → I' k j = I k j := by
  obtain ⟨I', M, g0, g1, g2, g3, g4, g5, g6, g7, g8, g9⟩ := yc_pass21 (d := d) (J := J) hn hc hq hR i1 i2 i4
  have hro : ∀ h, h < 8 → -1 ≤ (I 22 h).toInt ∧ (I 22 h).toInt < (c : Int) := fun h hh => by
    have := hw.1 h hh
    rwa [yq_s_1 hh] at this
  have hrr : ∀ r, r < c → I 4 r = ca r ∧ I 5 r = mo r ∧ I 6 r = wi r ∧ (yhb (I 21 2) (Int32.ofNat r) ↔ ¬ (fun r => yq_s I 21 (16 + r)) r = 0) := fun r hrc => by
    obtain ⟨a1, a2, a3⟩ := hr r hrc
    refine ⟨a1, a2, a3, ?_⟩
    show _ ↔ ¬ yq_s I 21 (16 + r) = 0
    rw [yq_s_3 (show r < 8 by omega)]
    by_cases g : yhb (I 21 2) (Int32.ofNat r)
    · rw [yIl_T g]
      exact ⟨fun _ => by decide, fun _ => g⟩
    · rw [yIl_F g]
      exact ⟨fun z => absurd z g, fun z => absurd rfl z⟩
  have ee := (yn_eq (be := I 3 8) (il := I 21 2) hc hro hrr n hn).1
  have ec : yn_rn (I 3 8) (I 22) ca mo wi (fun r => yq_s I 21 (16 + r)) n = yNg n (I 3 8) ca mo wi (yq_s I 21) := (yrn_cg (ro := I 22) (fun i hi => (yq_s_1 hi).symm) (fun i hi => by have := hro i hi; omega) (fun r hr => rfl) (fun _ _ => ⟨rfl, rfl, rfl⟩) n hn).1
  have em := yrm_cg (be := I 3 8) (ca := ca) (mo := mo) (wi := wi) (ro := I 22) (ro' := yq_s I 21) (il := fun r => yq_s I 21 (16 + r)) (il' := fun r => yq_s I 21 (16 + r)) (Hd := yHv val ca mo wi (yq_s I 21)) (Hd' := yHv val ca mo wi (yq_s I 21)) (fun i hi => (yq_s_1 hi).symm) (fun i hi => by have := hro i hi; omega) (fun r hr => rfl) (fun _ _ => ⟨rfl, rfl, rfl⟩) (fun r h _ _ => rfl) n hn
  have hM := g8 _ (yHv_c (ca := ca) (mo := mo) (wi := wi) (s := yq_s I 21) hL (fun r hrc => by
    obtain ⟨a1, a2, a3⟩ := hr r hrc
    exact ⟨(yq_s_2 (show r < 8 by omega)).symm, a3, a2, a1⟩) yq_s_24.symm)
  have tire := yn_tire (be := I 3 8) (il := I 21 2) (ti := I 23) (M := M) (M' := yr_m (I 3 8) (I 22) ca mo wi (fun r => yq_s I 21 (16 + r)) (yHv val ca mo wi (yq_s I 21)) n) (Hd := yHv val ca mo wi (yq_s I 21)) hc hn hro hrr (fun _ _ _ _ => yHv_r) hM (fun i _ => rfl) (fun i hi => by
    have := hw.2 i hi
    rw [yq_s_2 hi] at this
    exact ⟨this.1, this.2.1⟩)
  refine ⟨I', g0, y27 (fun i hi => ?_) (fun r hr8 => ?_) (fun r hr8 => ?_) ?_ ?_ ?_, by rw [g1, ee, ec], by rw [g2, ee, ec], fun k j h1 h2 h3 h4 h5 h6 h7 => g9 k j h1 h2 h3 h4 h5 h6 h7⟩
  · rw [yNt_1 hi, yq_s_1 hi, yq_s_1 hi]
    exact g9 22 i (by decide) (by decide) (by decide) (by decide) (by decide) (by omega) (by omega)
  · by_cases g : r < c
    · rw [yNt_2 hr8 g, yq_s_2 hr8, yq_s_2 hr8, ← ec, ← em]
      show I' 23 r = _
      rw [g3 r g]
      exact (tire r hr8).1
    · rw [yNt_3 hr8 (by omega), yq_s_2 hr8, yq_s_2 hr8]
      exact g4 r (by omega)
  · rw [yNt_4 hr8, yq_s_3 hr8, yq_s_3 hr8, g9 21 2 (by decide) (by decide) (by decide) (by decide) (by decide) (by omega) (by omega)]
  · rw [yNt_24, yq_s_24, yq_s_24]
    exact g7
  · rw [yNt_25, yq_s_25, yq_s_25, g5, ee, ec]
  · rw [yNt_26, yq_s_26, yq_s_26, g6, ee, ec]
theorem yNcl21 {N : Nat} {be : Int32} {C : List Int32} (hN : N ≤ 1000) (hn : n ≤ 8) (hc : c ≤ 8) (hq : q ≤ 40) (hR : R 3 9 = 10) (hL : yLv C T n0 val) : ∀ (m v : Nat) (I : Nat → Nat → Int32), v + m = N → I 3 7 = Int32.ofNat n → I 3 6 = Int32.ofNat c → I 3 8 = be → I 10 4 = Int32.ofNat q → yv_c (I 11) q = C → (∀ r, r < c → I 4 r = ca r ∧ I 5 r = mo r ∧ I 6 r = wi r) → yq_w c (yq_s I 21) → ∃ I', qX0_passAll_21_h2 (d + 5) (Int32.ofNat N) (Int32.ofNat v) (I, J, R) = some (none, I', J, R) ∧ (∀ i, i < 27 → yq_s I' 21 i = yNN n c be ca mo wi val m (yq_s I 21) i) ∧ ∀ k j, ¬ k = 7 → ¬ k = 8 → ¬ k = 9 → ¬ k = 13 → ¬ k = 23 → ¬ (k = 3 ∧ (j = 10 ∨ j = 11)) → ¬ (k = 21 ∧ (j = 3 ∨ j = 4 ∨ j = 5)) → I' k j = I k j
  | 0, v, I, hm, i1, i2, i3, i4, i5, hr, hw => by
    have e : v = N := by omega
    subst e
    refine ⟨I, ?_, fun _ _ => rfl, fun _ _ _ _ _ _ _ _ _ => rfl⟩
    rw [qX0_passAll_21_h2_eq, if_pos (Int32.le_refl _)]
  | m + 1, v, I, hm, i1, i2, i3, i4, i5, hr, hw => by
    have a1 : Int32.ofNat v + (1 : Int32) = Int32.ofNat (v + 1) := (Int32.ofNat_add v 1).symm
    obtain ⟨I1, g0, g1, -, -, g2⟩ := yNc21 (d := d) (J := J) hn hc hq hR i1 i2 i4 (by rw [i5]; exact hL) hr hw
    have f : ∀ k j, ¬ k = 7 → ¬ k = 8 → ¬ k = 9 → ¬ k = 13 → ¬ (21 ≤ k ∧ k ≤ 23) → ¬ (k = 3 ∧ (j = 10 ∨ j = 11)) → I1 k j = I k j := fun k j h1 h2 h3 h4 h5 h6 => g2 k j h1 h2 h3 h4 (by omega) h6 (by omega)
    have e11 : I1 11 = I 11 := funext fun j => f 11 j (by decide) (by decide) (by decide) (by decide) (by decide) (by omega)
    rw [i3] at g1
    have hw1 : yq_w c (yq_s I1 21) := yq_w_cg (fun i hi => g1 i hi) (yNt_w hc hn hw)
    obtain ⟨I', k0, k1, k2⟩ := yNcl21 (be := be) hN hn hc hq hR hL m (v + 1) I1 (by omega) ((f 3 7 (by decide) (by decide) (by decide) (by decide) (by decide) (by decide)).trans i1) ((f 3 6 (by decide) (by decide) (by decide) (by decide) (by decide) (by decide)).trans i2) ((f 3 8 (by decide) (by decide) (by decide) (by decide) (by decide) (by decide)).trans i3) ((f 10 4 (by decide) (by decide) (by decide) (by decide) (by decide) (by decide)).trans i4) (by rw [e11]; exact i5) (fun r hrc => by
      rw [f 4 r (by decide) (by decide) (by decide) (by decide) (by decide) (by omega), f 5 r (by decide) (by decide) (by decide) (by decide) (by decide) (by omega), f 6 r (by decide) (by decide) (by decide) (by decide) (by decide) (by omega)]
      exact hr r hrc) hw1
    refine ⟨I', ?_, fun i hi => (k1 i hi).trans (yNN_cg hc hn (fun _ _ => ⟨rfl, rfl, rfl⟩) m _ _ g1 hw1 i hi), fun k j h1 h2 h3 h4 h5 h6 h7 => (k2 k j h1 h2 h3 h4 h5 h6 h7).trans (g2 k j h1 h2 h3 h4 h5 h6 h7)⟩
    rw [qX0_passAll_21_h2_eq, if_neg (fun z => by have := (xr_le (by omega) (by omega)).mp z; omega), g0, xb_V1, a1]
    exact k0
theorem yNca21 {N : Nat} (hN : N ≤ 1000) (hn : n ≤ 8) (hc : c ≤ 8) (hq : q ≤ 40) (hR : R 3 9 = 10) (i1 : I 3 7 = Int32.ofNat n) (i2 : I 3 6 = Int32.ofNat c) (i4 : I 10 4 = Int32.ofNat q) (hL : yLv (yv_c (I 11) q) T n0 val) (hr : ∀ r, r < c → I 4 r = ca r ∧ I 5 r = mo r ∧ I 6 r = wi r) (hw : yq_w c (yq_s I 21)) : ∃ I', xq_D xqP (d + 6) 26 [.ref 3, .ref 21, .int (Int32.ofNat N)] (I, J, R) = some (none, I', J, R) ∧ (∀ i, i < 27 → yq_s I' 21 i = yNN n c (I 3 8) ca mo wi val N (yq_s I 21) i) ∧ ∀ k j, ¬ k = 7 → ¬ k = 8 → ¬ k = 9 → ¬ k = 13 → ¬ k = 23 → ¬ (k = 3 ∧ (j = 10 ∨ j = 11)) → ¬ (k = 21 ∧ (j = 3 ∨ j = 4 ∨ j = 5)) → I' k j = I k j := by
  rw [qX0_passAll_21_eq]
  exact yNcl21 (be := I 3 8) hN hn hc hq hR hL N 0 I (by omega) i1 i2 rfl i4 rfl hr hw
end YU4C21
section YU4R107
variable {C : List Int32} {n0 n c d : Nat} {val : (Nat → Int32) → Int32} {I : Nat → Nat → Int32} {J : Nat → Nat → Int64} {R : Nat → Nat → Nat}
def yfR107 (I I' : Nat → Nat → Int32) : Prop := ∀ k j, ¬ k = 104 → ¬ k = 108 → ¬ k = 109 → ¬ (k = 94 ∧ (j = 13 ∨ j = 14 ∨ j = 15 ∨ j = 16 ∨ j = 27 ∨ j = 28)) → ¬ (k = 107 ∧ ((8 ≤ j ∧ j < 16) ∨ j = 24 ∨ j = 25 ∨ j = 26)) → I' k j = I k j
theorem yNr107 (hn : n ≤ 8) (hc : c ≤ 8) (hn0 : n0 ≤ 40) (hF : yrF 107 n c n0 I R) (hL : yLv C (yk_t I 102 n0 40) n0 val) : ∃ I' R', xq_D xqP (d + 174) 220 [.ref 94, .ref 107] (I, J, R) = some (none, I', J, R') ∧ (∀ i, i < 27 → I' 107 i = yNt n c (I 94 2) (I 98) (I 96) (I 97) val (I 107) i) ∧ I' 94 27 = (yNg n (I 94 2) (I 98) (I 96) (I 97) (I 107)).1 ∧ I' 94 28 = (yNg n (I 94 2) (I 98) (I 96) (I 97) (I 107)).2.1 ∧ yfR107 I I' ∧ ∀ k j, ¬ (k = 94 ∧ j = 12) → R' k j = R k j := by
  obtain ⟨I', R', M, g0, g1, g2, g3, g4, g5, g6, g7, g8, g9, g10⟩ := yr_go107 (d := d) (J := J) hn hc hn0 hF
  have hM := g10 _ (yHv_rr (ca := I 98) (mo := I 96) (wi := I 97) (s := I 107) hL (fun r hr => rfl) rfl)
  refine ⟨I', R', g0, y27 (fun i hi => ?_) (fun r hr8 => ?_) (fun r hr8 => ?_) ?_ ?_ ?_, g1, g2, g8, g9⟩
  · rw [yNt_1 hi]
    exact g8 107 i (by decide) (by decide) (by decide) (by omega) (by omega)
  · by_cases g : r < c
    · rw [yNt_2 hr8 g, g3 r g, hM r hr8]
      rfl
    · rw [yNt_3 hr8 (by omega)]
      exact g4 r (by omega) hr8
  · rw [yNt_4 hr8]
    exact g8 107 (16 + r) (by decide) (by decide) (by decide) (by omega) (by omega)
  · rw [yNt_24]
    exact g7
  · rw [yNt_25]
    exact g5
  · rw [yNt_26]
    exact g6
theorem yNrl107 {N : Nat} {be : Int32} {ca mo wi T : Nat → Int32} (hN : N ≤ 1000) (hn : n ≤ 8) (hc : c ≤ 8) (hn0 : n0 ≤ 40) (hL : yLv C T n0 val) : ∀ (m v : Nat) (I : Nat → Nat → Int32) (R : Nat → Nat → Nat), v + m = N → yrF 107 n c n0 I R → yk_t I 102 n0 40 = T → I 94 2 = be → I 98 = ca → I 96 = mo → I 97 = wi → yq_w c (I 107) → ∃ I' R', qX8_goNights_107_h2 (d + 174) (Int32.ofNat N) (Int32.ofNat v) (I, J, R) = some (none, I', J, R') ∧ (∀ i, i < 27 → I' 107 i = yNN n c be ca mo wi val m (I 107) i) ∧ yfR107 I I' ∧ ∀ k j, ¬ (k = 94 ∧ j = 12) → R' k j = R k j
  | 0, v, I, R, hm, hF, hT, h1, h2, h3, h4, hw => by
    have e : v = N := by omega
    subst e
    refine ⟨I, R, ?_, fun _ _ => rfl, fun _ _ _ _ _ _ _ => rfl, fun _ _ _ => rfl⟩
    rw [qX8_goNights_107_h2_eq, if_pos (Int32.le_refl _)]
  | m + 1, v, I, R, hm, hF, hT, h1, h2, h3, h4, hw => by
    have a1 : Int32.ofNat v + (1 : Int32) = Int32.ofNat (v + 1) := (Int32.ofNat_add v 1).symm
    obtain ⟨I1, R1, g0, g1, -, -, g2, g3⟩ := yNr107 (d := d) (J := J) hn hc hn0 hF (by rw [hT]; exact hL)
    have hT1 : yk_t I1 102 n0 40 = T := by
      rw [← hT]
      funext p
      unfold yk_t
      rw [g2 102 p (by decide) (by decide) (by decide) (by omega) (by omega)]
    rw [h1, h2, h3, h4] at g1
    have hw1 : yq_w c (I1 107) := yq_w_cg (fun i hi => g1 i hi) (yNt_w hc hn hw)
    obtain ⟨I', R', k0, k1, k2, k3⟩ := yNrl107 hN hn hc hn0 hL m (v + 1) I1 R1 (by omega) (yrF_cg107 hF g2 g3) hT1 ((g2 94 2 (by decide) (by decide) (by decide) (by decide) (by decide)).trans h1) ((funext fun j => g2 98 j (by decide) (by decide) (by decide) (by omega) (by omega)).trans h2) ((funext fun j => g2 96 j (by decide) (by decide) (by decide) (by omega) (by omega)).trans h3) ((funext fun j => g2 97 j (by decide) (by decide) (by decide) (by omega) (by omega)).trans h4) hw1
    refine ⟨I', R', ?_, fun i hi => (k1 i hi).trans (yNN_cg hc hn (fun _ _ => ⟨rfl, rfl, rfl⟩) m _ _ g1 hw1 i hi), fun k j h1 h2 h3 h4 h5 => (k2 k j h1 h2 h3 h4 h5).trans (g2 k j h1 h2 h3 h4 h5), fun k j h => (k3 k j h).trans (g3 k j h)⟩
    rw [qX8_goNights_107_h2_eq, if_neg (fun z => by have := (xr_le (by omega) (by omega)).mp z; omega), g0, xb_V1, a1]
    exact k0
theorem yNra107 {N : Nat} (hN : N ≤ 1000) (hn : n ≤ 8) (hc : c ≤ 8) (hn0 : n0 ≤ 40) (hF : yrF 107 n c n0 I R) (hL : yLv C (yk_t I 102 n0 40) n0 val) (hw : yq_w c (I 107)) : ∃ I' R', xq_D xqP (d + 175) 221 [.ref 94, .ref 107, .int (Int32.ofNat N)] (I, J, R) = some (none, I', J, R') ∧ (∀ i, i < 27 → I' 107 i = yNN n c (I 94 2) (I 98) (I 96) (I 97) val N (I 107) i) ∧ yfR107 I I' ∧ ∀ k j, ¬ (k = 94 ∧ j = 12) → R' k j = R k j := by
  rw [qX8_goNights_107_eq]
  exact yNrl107 hN hn hc hn0 hL N 0 I R (by omega) hF rfl rfl rfl rfl rfl hw
end YU4R107
