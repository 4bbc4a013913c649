/-! gaps() -/
set_option maxRecDepth 100000 in
theorem ym_gaps : ym_0 k9X7_gaps k9X8_gaps = true := by decide +kernel
section YU17
variable {d c n q n0 : Nat} {I : Nat → Nat → Int32} {J : Nat → Nat → Int64} {R : Nat → Nat → Nat} {ca mo wi : Nat → Int32}
theorem yNw15 (hn : n ≤ 8) (hc : c ≤ 8) (i1 : I 3 7 = Int32.ofNat n) (i2 : I 3 6 = Int32.ofNat c) (hr : ∀ r, r < c → I 4 r = ca r ∧ I 5 r = mo r ∧ I 6 r = wi r) (hw : yq_w c (yq_s I 15)) : ∃ I', xq_D xqP (d + 4) 32 [.ref 3, .ref 15] (I, J, R) = some (none, I', J, R) ∧ I' 3 10 = (yNg n (I 3 8) ca mo wi (yq_s I 15)).1 ∧ I' 3 11 = (yNg n (I 3 8) ca mo wi (yq_s I 15)).2.1 ∧ ∀ k j, ¬ k = 8 → ¬ (k = 3 ∧ (j = 10 ∨ j = 11)) → I' k j = I k j := by
  obtain ⟨I', g0, g1, g2, -, g3⟩ := yc_watch15 (d := d) (J := J) (R := R) hn hc i1 i2
  have hro : ∀ h, h < 8 → -1 ≤ (I 16 h).toInt ∧ (I 16 h).toInt < (c : Int) := fun h hh => by
    have := hw.1 h hh
    rwa [yq_s_1 hh] at this
  have hrr : ∀ r, r < c → I 4 r = ca r ∧ I 5 r = mo r ∧ I 6 r = wi r ∧ (yhb (I 15 2) (Int32.ofNat r) ↔ ¬ (fun r => yq_s I 15 (16 + r)) r = 0) := fun r hrc => by
    obtain ⟨a1, a2, a3⟩ := hr r hrc
    refine ⟨a1, a2, a3, ?_⟩
    show _ ↔ ¬ yq_s I 15 (16 + r) = 0
    rw [yq_s_3 (show r < 8 by omega)]
    by_cases g : yhb (I 15 2) (Int32.ofNat r)
    · rw [yIl_T g]
      exact ⟨fun _ => by decide, fun _ => g⟩
    · rw [yIl_F g]
      exact ⟨fun z => absurd z g, fun z => absurd rfl z⟩
  have ee := (yn_eq (be := I 3 8) (il := I 15 2) hc hro hrr n hn).1
  have ec : yn_rn (I 3 8) (I 16) ca mo wi (fun r => yq_s I 15 (16 + r)) n = yNg n (I 3 8) ca mo wi (yq_s I 15) := (yrn_cg (ro := I 16) (fun i hi => (yq_s_1 hi).symm) (fun i hi => by have := hro i hi; omega) (fun r hr => rfl) (fun _ _ => ⟨rfl, rfl, rfl⟩) n hn).1
  exact ⟨I', g0, by rw [g1, ee, ec], by rw [g2, ee, ec], g3⟩
theorem ygapsF (hF : yF I) (hB : yBF I) : yRm yBF 5 124 k9X7_gaps 175 217 k9X8_gaps [] True yF I := by
  refine yRm_mk fun J R hR => ?_
  obtain ⟨c, n, v1, v2, v3, v4, v5, v6, v7, v8, v9, v10, v11⟩ := yV_of hF hB
  obtain ⟨q, n0, val, l1, l2, l3, l4, hL⟩ := yLv_of hF.2.2.1
  have hs15 : yq_w c (yq_s I 15) := yq_w_cg (fun i hi => (v10 i hi).symm) v11
  obtain ⟨Ic, c0, c1, c2, c3⟩ := yNw15 (d := 0) (J := J) (R := R) (ca := I 98) (mo := I 96) (wi := I 97) v7 v3 v4 v1 v9 hs15
  refine ⟨Ic 3 10, xq_upd (xq_upd (xq_upd Ic 78 1 0) 78 1 1) 78 1 2, ⟨xq_upd (xq_upd J 79 0 (ybc (Ic 3 10)).toInt64) 79 1 (Ic 3 11).toInt64, R, ?_⟩, fun I1' he hf hB1 J' R' hR' => ?_⟩
  · show xq_D xqP 5 124 [.ref 0] (I, J, R) = _
    rw [qX7_gaps_eq, c0, xb_V1, yc_bc, xb_I1, yc_tell2, xb_V1]
    show some (some (Value.int ((xq_upd (xq_upd (xq_upd Ic 78 1 0) 78 1 1) 78 1 2) 3 10)), _) = _
    rw [xu_k (by decide), xu_k (by decide), xu_k (by decide)]
  · have g : ∀ k j, xv k j = true → ¬ k = 78 → ¬ k = 8 → ¬ (k = 3 ∧ (j = 10 ∨ j = 11)) → I1' k j = I k j := fun k j h1 h2 h3 h4 => by rw [he k j h1, xq_upd_n (by omega), xq_upd_n (by omega), xq_upd_n (by omega), c3 k j h3 h4]
    obtain ⟨Ia, a0, a1, a2, a3⟩ := yq_l95_107 (d := 173) (J := J') (R := R') (off := 0) (I := xq_upd I1' 94 11 0) (by decide)
    have an : ∀ k j, xv k j = true → 80 ≤ k → ¬ k = 107 → ¬ (k = 94 ∧ j = 11) → Ia k j = I k j := fun k j h1 h2 h3 h4 => by rw [a1 k j h3, xq_upd_n h4, g k j h1 (by omega) (by omega) (by omega)]
    have a107 : ∀ i, i < 27 → Ia 107 i = I 95 i := fun i hi => by
      have := a2 i hi
      rw [Nat.zero_add] at this
      rw [this, xu_k (by decide), g 95 i (y95_xv hi) (by decide) (by decide) (by omega)]
    have x102 : ∀ i, i < 40 → xv 102 i = true := fun i hi => xt_xv xL9 (Or.inr ⟨40, by decide, hi⟩)
    have x98 : ∀ i, i < 8 → xv 98 i = true ∧ xv 96 i = true ∧ xv 97 i = true := fun i hi => ⟨xt_xv xP9 (Or.inr ⟨8, by decide, hi⟩), xt_xv xP9 (Or.inr ⟨8, by decide, hi⟩), xt_xv xP9 (Or.inr ⟨8, by decide, hi⟩)⟩
    have e0 : (0 : Int32).toInt = 0 := by decide
    have h21 : I 94 21 = 0 := by
      obtain ⟨h1, h2⟩ := hB.1.2.2.2.2.2.2.1
      rw [xt_eq, e0]
      omega
    have hT0 : yk_t Ia 102 n0 40 = yk_t I 102 n0 40 := by
      funext p
      unfold yk_t
      by_cases hp : p < n0 ∧ p < 40
      · rw [if_pos hp, if_pos hp, an 102 p (x102 p hp.2) (by decide) (by decide) (by omega)]
      · rw [if_neg hp, if_neg hp]
    have hFr : yrF 107 n c n0 Ia R' := ⟨(an 94 1 rfl (by decide) (by decide) (by decide)).trans v5, (an 94 3 rfl (by decide) (by decide) (by decide)).trans v2, (an 94 20 rfl (by decide) (by decide) (by decide)).trans l3, (an 94 21 rfl (by decide) (by decide) (by decide)).trans h21, hR'.2.2.1, fun i hi => by rw [an 102 i (x102 i hi) (by decide) (by decide) (by omega)]; exact hB.1.2.2.2.2.2.2.2.2.2 i hi, fun i hi => by rw [a107 i (by omega)]; have := v11.1 i hi; omega⟩
    obtain ⟨Id, Rd, d0, -, d1, d2, d3, d4⟩ := yNr107 (d := 0) (J := J') v7 v3 l4 hFr (by rw [hT0]; exact hL)
    have hg : Id 94 27 = (yNg n (I 3 8) (I 98) (I 96) (I 97) (yq_s I 15)).1 := by
      rw [d1, (an 94 2 rfl (by decide) (by decide) (by decide)).trans v8]
      rw [yNg_cg (s' := yq_s I 15) (ca2 := I 98) (mo2 := I 96) (wi2 := I 97) v3 v7 (fun i hi => (a107 i hi).trans (v10 i hi)) (fun r hr => ⟨an 98 r (x98 r hr).1 (by decide) (by decide) (by omega), an 96 r (x98 r hr).2.1 (by decide) (by decide) (by omega), an 97 r (x98 r hr).2.2 (by decide) (by decide) (by omega)⟩) (yq_w_cg a107 v11)]
    refine ⟨Id 94 27, xq_upd (xq_upd (xq_upd Id 94 10 0) 94 10 1) 94 10 2, ⟨xq_upd (xq_upd J' 100 0 (ybc (Id 94 27)).toInt64) 100 1 (Id 94 28).toInt64, Rd, ?_⟩, fun _ => c1.trans hg.symm, fun I2' he2 hf2 hB2 => yF_0 ym_gaps hf hf2 hF⟩
    show xq_D xqP 175 217 [.ref 94] (I1', J', R') = _
    have a0' : xq_D xqP 174 246 [.ref 95, .ref 107, .int 0] (xq_upd I1' 94 11 0, J', R') = some (none, Ia, J', R') := a0
    rw [qX8_gaps_eq, a0', xb_V1, d0, xb_V1, yc_bc, xb_I1, yr_tell (I := xq_upd Id 94 10 0) (n := 0) xu_t (by decide), xb_V1]
    rw [yr_tell (n := 1) xu_t (by decide), xb_V1]
    show some (some (Value.int ((xq_upd (xq_upd (xq_upd Id 94 10 0) 94 10 (Int32.ofNat (0 + 1))) 94 10 (Int32.ofNat (1 + 1))) 94 27)), _) = _
    rw [xu_j (by decide), xu_j (by decide), xu_j (by decide)]
    rfl
end YU17
