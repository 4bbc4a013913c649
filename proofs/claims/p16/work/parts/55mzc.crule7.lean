/-! THE RULE: the round, purely -/
/-- the class's law and the reference's have one value for all things -/
def yL (I : Nat → Nat → Int32) : Prop := ∃ q n0, I 10 4 = Int32.ofNat q ∧ q ≤ 40 ∧ I 94 20 = Int32.ofNat n0 ∧ n0 ≤ 40 ∧ ∀ e : Nat → Int32, ∃ x, yk_evl e (yv_c (I 11) q) = [x] ∧ (n0 = 0 → x = yg_v1 e) ∧ (0 < n0 → yok e (yk_t I 102 n0 40) n0 n0 x)
theorem yL_cg {I I' : Nat → Nat → Int32} (h1 : I' 10 4 = I 10 4) (h2 : ∀ j, j < 40 → I' 11 j = I 11 j) (h3 : I' 94 20 = I 94 20) (h4 : ∀ j, j < 40 → I' 102 j = I 102 j) (h : yL I) : yL I' := by
  obtain ⟨q, n0, a1, a2, a3, a4, a5⟩ := h
  refine ⟨q, n0, h1.trans a1, a2, h3.trans a3, a4, fun e => ?_⟩
  obtain ⟨x, b1, b2, b3⟩ := a5 e
  have et : yk_t I' 102 n0 40 = yk_t I 102 n0 40 := by
    funext p
    unfold yk_t
    by_cases hp : p < n0 ∧ p < 40
    · rw [if_pos hp, if_pos hp, h4 p hp.2]
    · rw [if_neg hp, if_neg hp]
  refine ⟨x, ?_, b2, fun z => by rw [et]; exact b3 z⟩
  rw [yv_c_up (F := I 11) (fun j hj => h2 j (by omega))]
  exact b1
def yRdR (B : (Nat → Nat → Int32) → Prop) (d1 d2 : Nat) (cmp : Prop) (P : (Nat → Nat → Int32) → Prop) (I : Nat → Nat → Int32) : Prop := ∀ J R, xz_R R → ∃ a I1 J1 R1, xq_D xqP d1 163 [.ref 0] (I, J, R) = some (some (.int a), I1, J1, R1) ∧ ∀ I1', xz_eq (if a = 0 then fun k => I1 (yg_pm k) else I1) I1' → B I1' → ∀ J' R', xz_R R' → ∃ b I2 J2 R2, xq_D xqP d2 276 [.ref 94] (I1', J', R') = some (some (.int b), I2, J2, R2) ∧ (cmp → a = b) ∧ P I2
theorem yg_pm_n {k : Nat} (h1 : ¬ (10 ≤ k ∧ k ≤ 14)) (h2 : ¬ (83 ≤ k ∧ k ≤ 87)) : yg_pm k = k := by
  unfold yg_pm
  rw [if_neg h1, if_neg h2]
/-- what rule() changes, and what not -/
def yg_fr2 (I I2 : Nat → Nat → Int32) : Prop := ∀ k j, xv k j = true → ¬ (10 ≤ k ∧ k ≤ 14) → ¬ (83 ≤ k ∧ k ≤ 87) → ¬ k = 102 → ¬ (k = 1 ∧ j = 1) → ¬ (k = 94 ∧ (j = 8 ∨ j = 11 ∨ j = 13 ∨ j = 14 ∨ j = 15 ∨ j = 16 ∨ j = 20 ∨ j = 21)) → I2 k j = I k j
theorem yrule0 {I : Nat → Nat → Int32} {B : (Nat → Nat → Int32) → Prop} (hBB : ∀ I, B I → yB I) (hP : yP I) (hB : yB I) : yRdR B 8 173 True (fun I2 => yg_fr2 I I2 ∧ I2 1 1 = 0 ∧ I2 94 8 = 0 ∧ (yL I → yL I2)) I := by
  intro J R hR
  obtain ⟨b1, b2, b3, b4, b5, b6, b7⟩ := hB
  obtain ⟨p1, p2, -⟩ := hP
  obtain ⟨n0, hn, hn80⟩ := ynat b4.1 b4.2
  have hn8 : I 94 8 = Int32.ofNat n0 := p1.trans hn
  have hT : ∀ i, i < n0 → i < 40 → I 2 i = yk_t I 99 n0 40 i ∧ 0 ≤ (yk_t I 99 n0 40 i).toInt ∧ (yk_t I 99 n0 40 i).toInt ≤ 255 := fun i h1 h2 => by
    have e : yk_t I 99 n0 40 i = I 99 i &&& 255 := if_pos ⟨h1, h2⟩
    rw [e]
    exact ⟨p2 i (by omega), yk_and⟩
  obtain ⟨a, a0, I1, R1, c1, c2, c3, c4, c5, c6⟩ := yg_rule_c (d := 0) (J := J) (R := R) hn (by omega) hT hR.1 hR.2.1
  refine ⟨a, I1, J, R1, c1, fun I1' he hB1 J' R' hR' => ?_⟩
  have hK : ∀ k j, xv k j = true → ¬ (10 ≤ k ∧ k ≤ 14) → ¬ (83 ≤ k ∧ k ≤ 87) → I1' k j = I1 k j := fun k j h0 h1 h2 => by
    rw [he k j h0]
    split
    · show I1 (yg_pm k) j = _
      rw [yg_pm_n h1 h2]
    · rfl
  have v94 : ∀ j, j = 8 ∨ j = 20 → xv 94 j = true := fun j h => by rcases h with rfl | rfl <;> rfl
  have v99 : ∀ j, j < 80 → xv 99 j = true := fun j h => xv_ar (t := 3) (n := 80) rfl (by omega) h
  have v102 : ∀ j, j < 40 → xv 102 j = true := fun j h => xv_ar (t := 3) (n := 40) rfl (by omega) h
  have v11 : ∀ j, j < 40 → xv 11 j = true := fun j h => xv_ar (t := 0) (n := 40) rfl (by omega) h
  have f99 : ∀ j, j < 80 → I1' 99 j = I 99 j := fun j hj => (hK 99 j (v99 j hj) (by omega) (by omega)).trans (c2 99 j (by omega) (by omega))
  have f8 : I1' 94 8 = Int32.ofNat n0 := ((hK 94 8 (v94 8 (Or.inl rfl)) (by omega) (by omega)).trans (c2 94 8 (by omega) (by omega))).trans hn8
  have f20 : I1' 94 20 = I 94 20 := (hK 94 20 (v94 20 (Or.inr rfl)) (by omega) (by omega)).trans (c2 94 20 (by omega) (by omega))
  have f102 : ∀ j, j < 40 → I1' 102 j = I 102 j := fun j hj => (hK 102 j (v102 j hj) (by omega) (by omega)).trans (c2 102 j (by omega) (by omega))
  have et : yk_t I1' 99 n0 40 = yk_t I 99 n0 40 := by
    funext p
    unfold yk_t
    by_cases hp : p < n0 ∧ p < 40
    · rw [if_pos hp, if_pos hp, f99 p (by omega)]
    · rw [if_neg hp, if_neg hp]
  obtain ⟨b, I2, R2, x1, x2, x3, x4, x5, x6, x7⟩ := yg_rule_r (d := 0) (J := J') (R := R') f8 (by omega) (fun i hi => by rw [f99 i (by omega)]; exact b1 i (by omega)) hR'.2.2.1
  rw [et] at x5
  have hm1 : ∀ p, p ≤ 40 → ¬ (-1 : Int32) - Int32.ofNat p = 0 := fun p hp z => by
    have e1 := xt_nat (n := p) (by omega)
    have e2 : ((-1 : Int32)).toInt = -1 := by decide
    have := congrArg Int32.toInt z
    rw [xt_sub (by omega) (by omega), e1, e2] at this
    have e0 : (0 : Int32).toInt = 0 := by decide
    omega
  have hab : a = b ∧ (a = 0 → a0 = -1 ∧ n0 ≤ 40) := by
    by_cases hz : n0 = 0
    · have y := (c5 hz).1
      have hb := x4 hz
      rcases c4 with ⟨-, h⟩ | ⟨h, -⟩
      · exact ⟨h.trans hb.symm, fun _ => ⟨y, by omega⟩⟩
      · exact absurd y h
    · have y := c6 (by omega) (fun _ => 0)
      rcases x5 (by omega) with ⟨p, h1, h2, h3⟩ | ⟨h1, h2, Q, h3⟩
      · rw [h3] at y
        obtain ⟨y1, -⟩ := y
        rcases c4 with ⟨h, -⟩ | ⟨-, h⟩
        · rw [h] at y1
          exact absurd y1.symm (xr_ne1 (by omega))
        · refine ⟨by rw [h, y1, h1], fun z => ?_⟩
          rw [h, y1] at z
          exact absurd z (hm1 p h2)
      · rw [h3] at y
        obtain ⟨y1, -⟩ := y
        rcases c4 with ⟨-, h⟩ | ⟨h, -⟩
        · exact ⟨h.trans h1.symm, fun _ => ⟨y1, h2⟩⟩
        · exact absurd y1 h
  obtain ⟨hab, ha0⟩ := hab
  refine ⟨b, I2, J', R2, x1, fun _ => hab, fun k j h0 h1 h2 h3 h4 h5 => ?_, ?_, x2, fun hL => ?_⟩
  · rw [x3 k j h3 h5, hK k j h0 h1 h2, c2 k j h2 h4]
  · rw [x3 1 1 (by omega) (by omega), hK 1 1 rfl (by omega) (by omega), c3]
  · by_cases hz : a = 0
    · obtain ⟨ha, h40⟩ := ha0 hz
      obtain ⟨y1, -, y2⟩ := x6 (hab.symm.trans hz)
      have k4 : I2 10 4 = I1 83 4 := by
        rw [x3 10 4 (by omega) (by omega), he 10 4 rfl, if_pos hz]
        rfl
      have k11 : ∀ j, j < 40 → I2 11 j = I1 84 j := fun j hj => by
        rw [x3 11 j (by omega) (by omega), he 11 j (v11 j hj), if_pos hz]
        rfl
      have et2 : yk_t I2 102 n0 40 = yk_t I 99 n0 40 := by
        funext p
        unfold yk_t
        by_cases hp : p < n0 ∧ p < 40
        · rw [if_pos hp, if_pos hp, y2 p hp.1, f99 p (by omega)]
        · rw [if_neg hp, if_neg hp]
      by_cases hz0 : n0 = 0
      · obtain ⟨-, sz, w1, w2, w3⟩ := c5 hz0
        refine ⟨sz, n0, k4.trans w1, w2, y1, by omega, fun e => ⟨yg_v1 e, ?_, fun _ => rfl, fun z => absurd hz0 (by omega)⟩⟩
        rw [yv_c_up (F := I1 84) (fun j hj => k11 j (by omega))]
        exact w3 e
      · have est : (if 40 < n0 then 40 else n0) = n0 := if_neg (by omega)
        have all : ∀ e, ∃ Q, yk_o e (yk_t I 99 n0 40) n0 n0 0 yk_Q0 = .inr Q ∧ ∃ sz, I1 83 4 = Int32.ofNat sz ∧ sz ≤ 40 ∧ yk_evl e (yv_c (I1 84) sz) = (yk_fl 1 Q.2.2.2.2.2 Q.2.2.2.2.1).2 := by
          intro e
          have y := c6 (by omega) e
          rw [est] at y
          generalize ho : yk_o e (yk_t I 99 n0 40) n0 n0 0 yk_Q0 = o at y
          cases o with
          | inl p =>
            obtain ⟨z1, z2⟩ := y
            rw [ha] at z1
            exact absurd z1.symm (xr_ne1 (by omega))
          | inr Q => exact ⟨Q, rfl, y.2⟩
        obtain ⟨-, -, sz, w1, w2, -⟩ := all (fun _ => 0)
        refine ⟨sz, n0, k4.trans w1, w2, y1, h40, fun e => ?_⟩
        obtain ⟨Q, z1, sz', z2, z3, z4⟩ := all e
        rw [w1] at z2
        have := xr_nat_inj (by omega) (by omega) z2
        subst this
        obtain ⟨v, hv⟩ := yok_all (I := I) (e := e) (stop := n0) (by omega) (fun i hi => b1 i (by omega)) est.symm z1
        rw [hv] at z4
        refine ⟨v, ?_, fun z => absurd z hz0, fun _ => ?_⟩
        · rw [yv_c_up (F := I1 84) (fun j hj => k11 j (by omega))]
          exact z4
        · rw [et2]
          exact ⟨Q, z1, hv⟩
    · have hb : ¬ b = 0 := fun z => hz (hab.trans z)
      obtain ⟨y1, -, y2⟩ := x7 hb
      refine yL_cg ?_ (fun j hj => ?_) (y1.trans f20) (fun j hj => (y2 j).trans (f102 j hj)) hL
      · rw [x3 10 4 (by omega) (by omega), he 10 4 rfl, if_neg hz, c2 10 4 (by omega) (by omega)]
      · rw [x3 11 j (by omega) (by omega), he 11 j (v11 j hj), if_neg hz, c2 11 j (by omega) (by omega)]
theorem yRdR_P {B P P' : (Nat → Nat → Int32) → Prop} {d1 d2 : Nat} {cmp : Prop} {I : Nat → Nat → Int32} (hr : yRdR B d1 d2 cmp P I) (hP : ∀ I2, P I2 → P' I2) : yRdR B d1 d2 cmp P' I := by
  intro J R hR
  obtain ⟨a, I1, J1, R1, h1, h2⟩ := hr J R hR
  refine ⟨a, I1, J1, R1, h1, fun I1' he hB J' R' hR' => ?_⟩
  obtain ⟨b, I2, J2, R2, h3, h4, h5⟩ := h2 I1' he hB J' R' hR'
  exact ⟨b, I2, J2, R2, h3, h4, hP _ h5⟩
theorem yRdR_F {B P : (Nat → Nat → Int32) → Prop} {d1 d2 : Nat} {cmp : Prop} {I : Nat → Nat → Int32} (hr : yRdR B d1 d2 cmp P I) : yRdR B d1 d2 False P I := by
  intro J R hR
  obtain ⟨a, I1, J1, R1, h1, h2⟩ := hr J R hR
  refine ⟨a, I1, J1, R1, h1, fun I1' he hB J' R' hR' => ?_⟩
  obtain ⟨b, I2, J2, R2, h3, h4, h5⟩ := h2 I1' he hB J' R' hR'
  exact ⟨b, I2, J2, R2, h3, fun h => h.elim, h5⟩
theorem yrule {I : Nat → Nat → Int32} {B : (Nat → Nat → Int32) → Prop} (hBB : ∀ I, B I → yB I) (hP : yP I) (hB : yB I) : yRdR B 8 173 True yP I := by
  refine yRdR_P (yrule0 hBB hP hB) (fun I2 h => ?_)
  obtain ⟨h1, h2, h3, -⟩ := h
  have hP' : yP (xq_upd (xq_upd I 1 1 0) 94 8 0) := by
    obtain ⟨p1, p2, p3, p4, p5⟩ := hP
    refine ⟨?_, fun i hi => ?_, ?_, fun r hr hrc => ?_, ?_, ?_, fun i hi => ?_⟩
    · unfold yP1
      rw [xu_t, xu_k (by decide), xu_t]
    · rw [xu_k (by omega), xu_k (by omega), xu_k (by omega), xu_k (by omega)]
      exact p2 i hi
    · unfold yP3
      rw [xu_j (by decide), xu_k (by decide), xu_k (by decide), xu_k (by decide)]
      exact p3
    · rw [xu_k (by decide), xu_k (by decide)] at hrc
      rw [xq_upd_n (by omega), xq_upd_n (by omega), xq_upd_n (by omega), xq_upd_n (by omega), xq_upd_n (by omega), xq_upd_n (by omega), xq_upd_n (by omega), xq_upd_n (by omega), xq_upd_n (by omega), xq_upd_n (by omega), xq_upd_n (by omega), xq_upd_n (by omega)]
      exact p4 r hr hrc
    · rw [xu_j (by decide), xu_k (by decide)]
      exact p5.1
    · rw [xu_j (by decide), xu_k (by decide), xu_j (by decide), xu_k (by decide)]
      exact p5.2.1
    · rw [xq_upd_n (by omega), xq_upd_n (by omega), xq_upd_n (by omega), xq_upd_n (by omega), xq_upd_n (by omega), xq_upd_n (by omega), xq_upd_n (by omega), xq_upd_n (by omega)]
      exact p5.2.2 i hi
  refine yP_cg (fun k j h => ?_) hP'
  by_cases g1 : k = 94 ∧ j = 8
  · obtain ⟨rfl, rfl⟩ := g1
    rw [xu_t, h3]
  · by_cases g2 : k = 1 ∧ j = 1
    · obtain ⟨rfl, rfl⟩ := g2
      rw [xu_k (by decide), xu_t, h2]
    · rw [xq_upd_n g1, xq_upd_n g2]
      exact h1 k j (yS_xv h) (by unfold yS at h; omega) (by unfold yS at h; omega) (by unfold yS at h; omega) g2 (by unfold yS at h; omega)
