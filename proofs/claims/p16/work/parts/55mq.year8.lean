/-! A YEAR: the round -/
def yBy (I : Nat → Nat → Int32) : Prop := yB I ∧ yb I 3 7 1 8 ∧ yb I 94 1 1 8 ∧ yb I 10 4 0 40 ∧ yb I 24 1 0 11 ∧ yb I 94 20 0 40 ∧ yb I 94 21 0 0 ∧ yb I 94 24 0 12 ∧ (∀ i, i < 8 → yb I 95 i (-1) 7) ∧ ∀ i, i < 40 → yb I 102 i (-128) 127
theorem yRd_B {B B' : (Nat → Nat → Int32) → Prop} {d1 m1 d2 m2 : Nat} {xs : List Int32} {cmp : Prop} {P : (Nat → Nat → Int32) → Prop} {I : Nat → Nat → Int32} (h : ∀ I, B' I → B I) (hr : yRd B d1 m1 d2 m2 xs cmp P I) : yRd B' d1 m1 d2 m2 xs cmp P I := by
  intro J R hR
  obtain ⟨a, I1, J1, R1, h1, h2⟩ := hr J R hR
  exact ⟨a, I1, J1, R1, h1, fun I1' he hB J' R' hR' => h2 I1' he (h _ hB) J' R' hR'⟩
section YYH
variable {I : Nat → Nat → Int32} {x : Int32}
theorem yyear (hP : yP I) (hB : yBy I) : yRd yBy 8 181 177 299 [] True yP I := by
  refine yRd_mk fun J R hR => ?_
  obtain ⟨⟨b1, b2, b3, b4, b5, b6, b7⟩, b8, b9, b10, b11, b12, b13, b14, b15, b16⟩ := hB
  obtain ⟨c, hc, hc8⟩ := ynat b2.1 b2.2
  obtain ⟨n0, hn0, hn80⟩ := ynat b4.1 b4.2
  obtain ⟨n, hn, hn8⟩ := ynat (h := 8) (by have := b8.1; omega) b8.2
  obtain ⟨q, hq, hq40⟩ := ynat b10.1 b10.2
  obtain ⟨M, hM, hM11⟩ := ynat b11.1 b11.2
  obtain ⟨I1, J1, g0, g1, g2⟩ := yc_year (d := 0) (J := J) (R := R) (n := n) (n0 := n0) (c := c) (q := q) (M := M) (by omega) (by omega) (by omega) (by omega) hn0 ⟨hn, hc, hq, hR.1⟩ hM (by omega)
  refine ⟨_, I1, ⟨J1, R, g0⟩, fun I1' he hB1 J' R' hR' => ?_⟩
  obtain ⟨⟨d1, d2, d3, d4, d5, d6, d7⟩, d8, d9, d10, d11, d12, d13, d14, d15, d16⟩ := hB1
  have hS : ∀ k j, yS k j → ¬ k = 1 → I1' k j = I k j := fun k j h h1 => by
    rw [he k j (yS_xv h)]
    exact g2 k j (fun z => h1 z.1) h1 (by unfold yS at h; omega) (by unfold yS at h; omega) (by unfold yS at h; omega) (by unfold yS at h; omega) (by unfold yS at h; omega) (by unfold yS at h; omega) (by unfold yS at h; omega) (by unfold yS at h; omega) (by unfold yS at h; omega) (by unfold yS at h; omega) (by unfold yS at h; omega) (by unfold yS at h; omega) (by unfold yS at h; omega) (by unfold yS at h; omega)
  have e11 : I1' 1 1 = 0 := (he 1 1 (yS_xv (by unfold yS; omega))).trans g1
  have e8 : I1' 94 8 = Int32.ofNat n0 := (hS 94 8 (by unfold yS; omega) (by decide)).trans (hP.1.trans hn0)
  have e3 : I1' 94 3 = Int32.ofNat c := (hS 94 3 (by unfold yS; omega) (by decide)).trans (hP.2.2.1.trans hc)
  have eT : yk_t I1' 99 n0 60 = yaT I n0 := by
    funext p
    unfold yk_t yaT
    by_cases hp : p < n0 ∧ p < 60
    · rw [if_pos hp, if_pos hp, hS 99 p (by unfold yS; omega) (by decide), hP.2.1 p (by omega)]
    · rw [if_neg hp, if_neg hp]
  obtain ⟨n', hn', hn8'⟩ := ynat (h := 8) (by have := d9.1; omega) d9.2
  obtain ⟨q', hq', hq40'⟩ := ynat d12.1 d12.2
  obtain ⟨M', hM', hM12'⟩ := ynat d14.1 d14.2
  have h21 : I1' 94 21 = 0 := by
    have h1 := d13.1
    have h2 := d13.2
    have e0 : ((0 : Int32)).toInt = 0 := by decide
    rw [xt_eq]
    omega
  obtain ⟨I2, J2, R2, k0, k1, k2, k3⟩ := yr_year (d := 0) (J := J') (R := R') (n := n') (c := c) (q0 := q') (n0 := n0) (M := M') (by omega) (by omega) (by omega) (by omega) e8 (fun i hi => d1 i hi) hM' (by omega) ⟨hn', e3, hq', h21, hR'.2.2.1, fun i hi => d16 i hi, fun i hi => d15 i hi⟩
  refine ⟨_, I2, ⟨J2, R2, k0⟩, fun _ => by rw [eT], ?_⟩
  have hS2 : ∀ k j, yS k j → ¬ k = 1 → ¬ (k = 94 ∧ j = 8) → I2 k j = I k j := fun k j h h1 h2 => by
    rw [k2 k j (by unfold yS at h; omega) (by unfold yS at h; omega) (by unfold yS at h; omega) (by unfold yS at h; omega) (by unfold yS at h; omega) (by unfold yS at h; omega) (by unfold yS at h; omega) (by unfold yS at h; omega)]
    exact hS k j h h1
  have f11 : I2 1 1 = 0 := (k2 1 1 (by decide) (by decide) (by decide) (by decide) (by decide) (by decide) (by decide) (by decide)).trans e11
  have hP' : yP (xq_upd (xq_upd I 1 1 0) 94 8 0) := by
    obtain ⟨p1, p2, p3, p4, p5⟩ := hP
    refine ⟨?_, fun i hi => ?_, ?_, fun r hr hrc => ?_, ?_, ?_, fun i hi => ?_⟩
    · unfold yP1
      rw [xu_t, xu_k (by decide), xu_t]
    · rw [xu_k (by omega), xu_k (by omega), xu_k (by omega), xu_k (by omega)]
      exact p2 i hi
    · unfold yP3
      rw [xu_j (by decide), xu_k (by decide), xu_k (by decide), xu_k (by decide)]
      exact p3
    · rw [xu_k (by decide), xu_k (by decide)] at hrc
      rw [xq_upd_n (by omega), xq_upd_n (by omega), xq_upd_n (by omega), xq_upd_n (by omega), xq_upd_n (by omega), xq_upd_n (by omega), xq_upd_n (by omega), xq_upd_n (by omega), xq_upd_n (by omega), xq_upd_n (by omega), xq_upd_n (by omega), xq_upd_n (by omega)]
      exact p4 r hr hrc
    · rw [xu_j (by decide), xu_k (by decide)]
      exact p5.1
    · rw [xu_j (by decide), xu_k (by decide), xu_j (by decide), xu_k (by decide)]
      exact p5.2.1
    · rw [xq_upd_n (by omega), xq_upd_n (by omega), xq_upd_n (by omega), xq_upd_n (by omega), xq_upd_n (by omega), xq_upd_n (by omega), xq_upd_n (by omega), xq_upd_n (by omega)]
      exact p5.2.2 i hi
  refine yP_cg (fun k j h => ?_) hP'
  by_cases h1 : k = 94 ∧ j = 8
  · obtain ⟨rfl, rfl⟩ := h1
    rw [xu_t, k1]
  · by_cases h2 : k = 1
    · have hj : j = 1 := by
        unfold yS at h
        omega
      subst h2
      subst hj
      rw [f11, xu_k (by decide), xu_t]
    · rw [hS2 k j h h2 h1, xq_upd_n h1, xq_upd_n (by omega)]
end YYH
