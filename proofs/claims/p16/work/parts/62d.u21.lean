/-! A YEAR as steps of states -/
noncomputable def yYS (n c : Nat) (be : Int32) (ca mo wi : Nat → Int32) (val : (Nat → Int32) → Int32) (T : Nat → Int32) : Nat → Nat → (Nat → Int32) → Nat → Int32
  | 0, _, s => s
  | m + 1, i, s => if yaV c (T (yps T i)) (yaa T i) (yab2 T i) then yYS n c be ca mo wi val T m (i + 1) (yAct n c be ca mo wi val (T (yps T i)) (yaa T i) (yab2 T i) s) else s
section YU21
variable {CC : List Int32} {T Tl : Nat → Int32} {n0 n1 n c q d K nx sz : Nat} {val : (Nat → Int32) → Int32} {ca mo wi s s' : Nat → Int32} {be l a b b' : Int32} {I : Nat → Nat → Int32} {J : Nat → Nat → Int64} {R : Nat → Nat → Nat}
theorem yYS_T {m i : Nat} (h : yaV c (T (yps T i)) (yaa T i) (yab2 T i)) : yYS n c be ca mo wi val T (m + 1) i s = yYS n c be ca mo wi val T m (i + 1) (yAct n c be ca mo wi val (T (yps T i)) (yaa T i) (yab2 T i) s) := if_pos h
theorem yYS_F {m i : Nat} (h : ¬ yaV c (T (yps T i)) (yaa T i) (yab2 T i)) : yYS n c be ca mo wi val T (m + 1) i s = s := if_neg h
theorem yYS_cg {ca2 mo2 wi2 : Nat → Int32} (hc : c ≤ 8) (hn : n ≤ 8) (h5 : ∀ r, r < 8 → ca r = ca2 r ∧ mo r = mo2 r ∧ wi r = wi2 r) : ∀ (m i : Nat) (s s' : Nat → Int32), (∀ i, i < 27 → s i = s' i) → yq_w c s → ∀ k, k < 27 → yYS n c be ca mo wi val T m i s k = yYS n c be ca2 mo2 wi2 val T m i s' k
  | 0, i, s, s', h, _ => h
  | m + 1, i, s, s', h, hw => by
    by_cases g : yaV c (T (yps T i)) (yaa T i) (yab2 T i)
    · rw [yYS_T g, yYS_T g]
      exact yYS_cg hc hn h5 m (i + 1) _ _ (yAct_cg hc hn h5 h hw) (yAct_w hc hn hw)
    · rw [yYS_F g, yYS_F g]
      exact h
theorem yYS_w (hc : c ≤ 8) (hn : n ≤ 8) : ∀ (m i : Nat) (s : Nat → Int32), yq_w c s → yq_w c (yYS n c be ca mo wi val T m i s)
  | 0, i, s, hw => hw
  | m + 1, i, s, hw => by
    by_cases g : yaV c (T (yps T i)) (yaa T i) (yab2 T i)
    · rw [yYS_T g]
      exact yYS_w hc hn m (i + 1) _ (yAct_w hc hn hw)
    · rw [yYS_F g]
      exact hw
theorem yAct_b (h : yaL l = 2) : yAct n c be ca mo wi val l a b s = yAct n c be ca mo wi val l a b' s := by
  have hv := yaV_b (c := c) (a := a) (b := b) (b' := b') h
  by_cases h0 : yaV c l a b
  · have h0' := hv.mp h0
    by_cases h2 : l.toInt = 105
    · rw [yAct_i h0 h2, yAct_i h0' h2]
    · by_cases h3 : l.toInt = 110
      · rw [yAct_N h0 h3, yAct_N h0' h3]
      · exfalso
        have h1 := yaL_2 h
        unfold yaL at h
        rw [if_neg h1, if_neg h2, if_neg h3] at h
        split at h <;> omega
  · rw [yAct_n h0, yAct_n (fun z => h0 (hv.mpr z))]
theorem yc_h42w (hn : n ≤ 8) (hc : c ≤ 8) (hq : q ≤ 40) (hn0 : n0 ≤ 80) (hv : ∀ i, i < K → yps T i < n0 ∧ ∃ q, yaf T (yps T i) = .inr q) (hK : n0 ≤ yps T K) (hK3 : K ≤ 30) (hKs : yps T K ≤ 100) (hL : yLv CC Tl n1 val) : ∀ (m i : Nat) (I : Nat → Nat → Int32), i + m = K → ycF n c q I R → I 1 1 = Int32.ofNat n0 → yaT I n0 = T → I 3 8 = be → yv_c (I 11) q = CC → (∀ r, r < c → I 4 r = ca r ∧ I 5 r = mo r ∧ I 6 r = wi r) → yq_w c (yq_s I 15) → ∃ (I' : Nat → Nat → Int32) (v3 v4 v5 : Int32), qX7_year_h42 (d + 7) (Int32.ofNat i) (Int32.ofNat (yps T i)) 1 (Int32.ofNat i) (I, J, R) = qX7_year_h132 (d + 7) (Int32.ofNat (yaN c T m i)) v3 v4 v5 (I', J, R) ∧ (∀ k, k < 27 → yq_s I' 15 k = yYS n c be ca mo wi val T m i (yq_s I 15) k) ∧ yfC I I'
  | 0, i, I, h1, h2, h3, h4, hbe, hCC, hr, hw => by
    have : i = K := by omega
    subst this
    have h3' : (I, J, R).1 1 1 = Int32.ofNat n0 := h3
    refine ⟨I, Int32.ofNat (yps T i), 1, Int32.ofNat i, ?_, fun _ _ => rfl, fun _ _ _ _ _ _ _ _ _ _ => rfl⟩
    rw [qX7_year_h42_eq, if_neg (show ¬ (60 : Int32) ≤ Int32.ofNat i from fun z => by have := (xr_le (a := 60) (by omega) (by omega)).mp z; omega), if_neg (by decide), h3', if_pos ((xr_le (by omega) (by omega)).mpr hK)]
    rfl
  | m + 1, i, I, h1, h2, h3, h4, hbe, hCC, hr, hw => by
    have hi : i < K := by omega
    have h3' : (I, J, R).1 1 1 = Int32.ofNat n0 := h3
    obtain ⟨hp, qq, hq1⟩ := hv i hi
    obtain ⟨w1, w2, w3, w4⟩ := yaf_inr hq1
    have hp0 : ¬ T (yps T i) = -1 := fun z => by rw [z] at w2; revert w2; decide
    have hp1 : ¬ T (yps T i + 1) = -1 := fun z => by rw [z] at w3; revert w3; decide
    rw [← h4] at hp0 hp1
    have in0 := yaT_in hp0
    have in1 := yaT_in hp1
    have t0 : I 2 (yps T i) = T (yps T i) := by
      have : yaT I n0 (yps T i) = I 2 (yps T i) := if_pos (by rw [h4] at in0; exact in0)
      rw [← this, h4]
    have t1 : I 2 (yps T i + 1) = T (yps T i + 1) := by
      have : yaT I n0 (yps T i + 1) = I 2 (yps T i + 1) := if_pos (by rw [h4] at in1; exact in1)
      rw [← this, h4]
    rw [h4] at in0 in1
    have hB : ∃ o2 : Int32, o2 = (if yps T i + 2 < n0 then I 2 (yps T i + 2) else -1) ∧ (yaL (T (yps T i)) = 3 → (if o2 = 45 then -1 else o2 - 48) = yab2 T i) := by
      refine ⟨_, rfl, fun z => ?_⟩
      have hp2 : ¬ yaT I n0 (yps T i + 2) = -1 := fun y => by
        have e := w4 z
        rw [h4] at y
        rw [y] at e
        have em : ((-1 : Int32)).toInt = -1 := by decide
        exact e.elim (fun z => by have := z.1; omega) (fun z => by have := z.2; omega)
      have in2 := yaT_in hp2
      have t2 : I 2 (yps T i + 2) = T (yps T i + 2) := by
        have : yaT I n0 (yps T i + 2) = I 2 (yps T i + 2) := if_pos in2
        rw [← this, h4]
      rw [if_pos in2.1, t2]
      rfl
    obtain ⟨o2, ho2, hB⟩ := hB
    have ea : T (yps T i + 1) - 48 = yaa T i := rfl
    have hV : yaV c (T (yps T i)) (yaa T i) (if o2 = 45 then -1 else o2 - 48) ↔ yaV c (T (yps T i)) (yaa T i) (yab2 T i) := by
      rcases yaL_r (x := T (yps T i)) with z | z | z
      · omega
      · exact yaV_b z
      · rw [hB z]
    obtain ⟨I1, g0, g5, g1⟩ := yc_actw (d := d) (J := J) (R := R) (l := T (yps T i)) (o1 := T (yps T i + 1)) (o2 := o2) (ca := ca) (mo := mo) (wi := wi) hn hc hq h2.2.2.2 h2.1 h2.2.1 h2.2.2.1 (by rw [hCC]; exact hL) hr hw (fun _ => by
      have e48 : ((48 : Int32)).toInt = 48 := by decide
      have h1 := w3.1
      have h2 := w3.2
      have := xt_sub (x := T (yps T i + 1)) (y := 48) (by rw [e48]; omega) (by rw [e48]; omega)
      refine ⟨(T (yps T i + 1) - 48).toInt.toNat, by omega, ?_⟩
      rw [xt_eq, xt_nat (by omega)]
      omega)
    rw [ea] at g0 g5
    have g5' : ∀ k, k < 27 → yq_s I1 15 k = yAct n c be ca mo wi val (T (yps T i)) (yaa T i) (yab2 T i) (yq_s I 15) k := fun k hk => by
      rw [g5 k hk, hbe]
      rcases yaL_r (x := T (yps T i)) with z | z | z
      · omega
      · rw [yAct_b z]
      · rw [hB z]
    have f1 : I1 1 1 = Int32.ofNat n0 := (g1 1 1 (by decide) (by decide) (by decide) (by decide) (by decide) (by decide) (by decide) (by decide)).trans h3
    have f2 : ∀ x, I1 2 x = I 2 x := fun x => g1 2 x (by decide) (by decide) (by decide) (by decide) (by decide) (by decide) (by decide) (by omega)
    rw [yaN]
    have st : qX7_year_h42 (d + 7) (Int32.ofNat i) (Int32.ofNat (yps T i)) 1 (Int32.ofNat i) (I, J, R) = if yaV c (T (yps T i)) (yaa T i) (yab2 T i) then qX7_year_h42 (d + 7) (Int32.ofNat (i + 1)) (Int32.ofNat (yps T i + yaL (T (yps T i)))) 1 (Int32.ofNat (i + 1)) (I1, J, R) else qX7_year_h42 (d + 7) (Int32.ofNat i) (Int32.ofNat (yps T i + yaL (T (yps T i)))) 0 (Int32.ofNat (i + 1)) (I1, J, R) := by
      generalize hpe : yps T i = p at *
      have a1 : Int32.ofNat p + (1 : Int32) = Int32.ofNat (p + 1) := (Int32.ofNat_add p 1).symm
      have a2 : Int32.ofNat p + (2 : Int32) = Int32.ofNat (p + 2) := (Int32.ofNat_add p 2).symm
      have aL : Int32.ofNat p + Int32.ofNat (yaL (T p)) = Int32.ofNat (p + yaL (T p)) := (Int32.ofNat_add p _).symm
      have ai : Int32.ofNat i + (1 : Int32) = Int32.ofNat (i + 1) := (Int32.ofNat_add i 1).symm
      rw [qX7_year_h42_eq, if_neg (show ¬ (60 : Int32) ≤ Int32.ofNat i from fun z => by have := (xr_le (a := 60) (by omega) (by omega)).mp z; omega), if_neg (by decide), h3', if_neg (fun z => by have := (xr_le (by omega) (by omega)).mp z; omega), yc_at h3 hn0 (by omega), if_pos hp, xb_I1, a1, yc_at h3 hn0 (by omega), if_pos in1.1, xb_I1, a2, yc_at h3 hn0 (by omega), xb_I1, t0, t1, ← ho2, g0, xb_I1, yc_at f1 hn0 (by omega), if_pos hp, xb_I1, f2, t0, yc_signs, xb_I1, aL]
      by_cases hy : yaV c (T p) (yaa T i) (yab2 T i)
      · rw [if_pos (hV.mpr hy), if_neg (by decide), if_pos hy, qX7_year_h124_eq, ai]
      · rw [if_neg (fun z => hy (hV.mp z)), if_pos rfl, if_neg hy, qX7_year_h124_eq, ai, Int32.add_zero]
    rw [st]
    by_cases hy : yaV c (T (yps T i)) (yaa T i) (yab2 T i)
    · have e4 : yaT I1 n0 = T := by
        rw [← h4]
        funext x
        unfold yaT
        rw [f2]
      have ep : yps T (i + 1) = yps T i + yaL (T (yps T i)) := by
        rw [yps]
      have hw1 : yq_w c (yq_s I1 15) := yq_w_cg g5' (yAct_w hc hn hw)
      have e11 : yv_c (I1 11) q = CC := by
        rw [show I1 11 = I 11 from funext fun x => g1 11 x (by decide) (by decide) (by decide) (by decide) (by decide) (by decide) (by decide) (by omega)]
        exact hCC
      rw [if_pos hy, if_pos hy, ← ep, yYS_T hy]
      obtain ⟨I', v3, v4, v5, k0, k5, k1⟩ := yc_h42w hn hc hq hn0 hv hK hK3 hKs hL m (i + 1) I1 (by omega) (ycF_cg h2 g1) f1 e4 ((g1 3 8 (by decide) (by decide) (by decide) (by decide) (by decide) (by decide) (by decide) (by decide)).trans hbe) e11 (fun r hrc => by
        rw [g1 4 r (by decide) (by decide) (by decide) (by decide) (by decide) (by decide) (by decide) (by omega), g1 5 r (by decide) (by decide) (by decide) (by decide) (by decide) (by decide) (by decide) (by omega), g1 6 r (by decide) (by decide) (by decide) (by decide) (by decide) (by decide) (by decide) (by omega)]
        exact hr r hrc) hw1
      refine ⟨I', v3, v4, v5, k0, fun k hk => (k5 k hk).trans (yYS_cg hc hn (fun _ _ => ⟨rfl, rfl, rfl⟩) m (i + 1) _ _ g5' hw1 k hk), fun k j q1 q2 q3 q4 q5 q6 q7 q8 => (k1 k j q1 q2 q3 q4 q5 q6 q7 q8).trans (g1 k j q1 q2 q3 q4 q5 q6 q7 q8)⟩
    · rw [if_neg hy, if_neg hy, yYS_F hy]
      refine ⟨I1, Int32.ofNat (yps T i + yaL (T (yps T i))), 0, Int32.ofNat (i + 1), ?_, fun k hk => ?_, g1⟩
      · rw [qX7_year_h42_eq, if_neg (show ¬ (60 : Int32) ≤ Int32.ofNat (i + 1) from fun z => by have := (xr_le (a := 60) (by omega) (by omega)).mp z; omega), if_pos rfl]
      · rw [g5' k hk, yAct_n hy]
theorem yc_h132w {D : Nat} {v3 v4 v5 : Int32} (w1 : I 24 1 = Int32.ofNat nx) (w2 : nx < 12) (w3 : I 24 2 = Int32.ofNat sz) (w4 : sz ≤ 12) (hD : D ≤ 100) : ∃ Ia : Nat → Nat → Int32, (D = 0 → Ia = I) ∧ (0 < D → Ia 24 1 = Int32.ofNat ((nx + 1) % 12) ∧ Ia 24 2 = Int32.ofNat (if sz = 12 then 12 else sz + 1) ∧ ∀ k j, ¬ k = 24 → Ia k j = yq_cp I (26 + 3 * nx) 18 k j) ∧ ∃ (I' : Nat → Nat → Int32) (J' : Nat → Nat → Int64), qX7_year_h132 (d + 2) (Int32.ofNat D) v3 v4 v5 (I, J, R) = some (some (.int (Int32.ofNat D)), I', J', R) ∧ I' 1 1 = 0 ∧ ∀ k j, ¬ (k = 1 ∧ j = 1) → ¬ (k = 78 ∧ j = 1) → I' k j = Ia k j := by
  have fin : ∀ (I : Nat → Nat → Int32) (v : Int32), ∃ (I' : Nat → Nat → Int32) (J' : Nat → Nat → Int64), qX7_year_h147 (d + 2) v v3 v4 v5 (I, J, R) = some (some (.int v), I', J', R) ∧ I' 1 1 = 0 ∧ ∀ k j, ¬ (k = 1 ∧ j = 1) → ¬ (k = 78 ∧ j = 1) → I' k j = I k j := by
    intro I v
    rw [qX7_year_h147_eq, qX6_empty_eq, xb_V1]
    by_cases hv : v4 = 0
    · rw [if_pos hv, qX7_year_h168_eq, yc_tell2, xb_V1]
      exact ⟨_, _, rfl, by rw [xu_k (by decide), xu_k (by decide), xu_k (by decide), xu_t], fun k j h1 h2 => by rw [xq_upd_n h2, xq_upd_n h2, xq_upd_n h2, xq_upd_n h1]⟩
    · rw [if_neg hv, qX7_year_h168_eq, yc_tell2, xb_V1]
      exact ⟨_, _, rfl, by rw [xu_k (by decide), xu_k (by decide), xu_k (by decide), xu_t], fun k j h1 h2 => by rw [xq_upd_n h2, xq_upd_n h2, xq_upd_n h2, xq_upd_n h1]⟩
  have b := xt_nat (n := D) (by omega)
  have e0 : (0 : Int32).toInt = 0 := by decide
  rw [qX7_year_h132_eq]
  by_cases hv : D = 0
  · rw [if_pos (show Int32.ofNat D ≤ 0 by rw [xt_le, b, e0]; omega)]
    exact ⟨I, fun _ => rfl, fun z => absurd hv (by omega), fin I _⟩
  · rw [if_neg (show ¬ Int32.ofNat D ≤ 0 by rw [xt_le, b, e0]; omega)]
    obtain ⟨Ia, p0, p1, p2, p3⟩ := yq_push18 (d := d) (J := J) (R := R) w1 w2 w3 w4
    rw [p0, xb_V1]
    exact ⟨Ia, fun z => absurd z hv, fun _ => ⟨p1, p2, p3⟩, fin Ia _⟩
theorem yr_h72w (hn : n ≤ 8) (hc : c ≤ 8) (hq : q ≤ 40) (hK : K ≤ 60) (hv : ∀ i, i < K → ∃ q, yaf T (yps T i) = .inr q) (hL : yLv CC Tl q val) : ∀ (m i : Nat) (I : Nat → Nat → Int32) (R : Nat → Nat → Nat), i + m = K → yrF 95 n c q I R → (∀ i, i < K → yaA I T i (yps T i)) → yk_t I 102 q 40 = Tl → I 94 2 = be → I 98 = ca → I 96 = mo → I 97 = wi → yq_w c (I 95) → ∃ (I' : Nat → Nat → Int32) (R' : Nat → Nat → Nat), qX8_year_h72 (d + 176) (Int32.ofNat K) (Int32.ofNat i) (I, J, R) = qX8_year_h118 (d + 176) (Int32.ofNat K) (Int32.ofNat (yaN c T m i)) (I', J, R') ∧ (∀ k, k < 27 → I' 95 k = yYS n c be ca mo wi val T m i (I 95) k) ∧ yfA I I' ∧ (∀ k j, ¬ (k = 94 ∧ j = 12) → R' k j = R k j)
  | 0, i, I, R, h1, h2, h3, _, _, _, _, _, _ => by
    have : i = K := by omega
    subst this
    refine ⟨I, R, ?_, fun _ _ => rfl, fun _ _ _ _ _ _ _ => rfl, fun _ _ _ => rfl⟩
    rw [qX8_year_h72_eq, if_pos (Int32.le_refl _)]
    rfl
  | m + 1, i, I, R, h1, h2, h3, hT, hbe, h98, h96, h97, hw => by
    have hi : i < K := by omega
    have a1 : Int32.ofNat i + (1 : Int32) = Int32.ofNat (i + 1) := (Int32.ofNat_add i 1).symm
    have a3 : (3 : Int32) * Int32.ofNat i = Int32.ofNat (3 * i) := (Int32.ofNat_mul 3 i).symm
    have a31 : Int32.ofNat (3 * i) + (1 : Int32) = Int32.ofNat (3 * i + 1) := (Int32.ofNat_add (3 * i) 1).symm
    have a32 : Int32.ofNat (3 * i) + (2 : Int32) = Int32.ofNat (3 * i + 2) := (Int32.ofNat_add (3 * i) 2).symm
    have b0 := xt_nat (n := 3 * i) (by omega)
    have b1 := xt_nat (n := 3 * i + 1) (by omega)
    have b2 := xt_nat (n := 3 * i + 2) (by omega)
    have c0 : (Int32.ofNat (3 * i)).toInt.toNat = 3 * i := by omega
    have c1 : (Int32.ofNat (3 * i + 1)).toInt.toNat = 3 * i + 1 := by omega
    have c2 : (Int32.ofNat (3 * i + 2)).toInt.toNat = 3 * i + 2 := by omega
    obtain ⟨qq, hq1⟩ := hv i hi
    obtain ⟨w1, w2, w3, w4⟩ := yaf_inr hq1
    obtain ⟨u1, u2, u3⟩ := h3 i hi
    have e0 : (I, J, R).1 110 (3 * i) = T (yps T i) := u1
    have e1 : (I, J, R).1 110 (3 * i + 1) = yaa T i := u2
    obtain ⟨I1, R1, g0, g5, g2, g3⟩ := yr_actw (d := d) (J := J) (l := T (yps T i)) (a := yaa T i) (b := I 110 (3 * i + 2)) hn hc hq h2 (by rw [hT]; exact hL) hw (fun _ => by
      refine ⟨(yaa T i).toInt.toNat, ?_, ?_⟩
      · have e48 : ((48 : Int32)).toInt = 48 := by decide
        have := xt_sub (x := T (yps T i + 1)) (y := 48) (by rw [e48]; have := w3.1; omega) (by rw [e48]; have := w3.2; omega)
        unfold yaa
        have h1 := w3.1
        have h2 := w3.2
        omega
      · have e48 : ((48 : Int32)).toInt = 48 := by decide
        have := xt_sub (x := T (yps T i + 1)) (y := 48) (by rw [e48]; have := w3.1; omega) (by rw [e48]; have := w3.2; omega)
        have h1 := w3.1
        have h2 := w3.2
        have h5 : 0 ≤ (yaa T i).toInt ∧ (yaa T i).toInt ≤ 9 := by
          unfold yaa
          omega
        rw [xt_eq, xt_nat (by omega)]
        omega)
    have hV : yaV c (T (yps T i)) (yaa T i) (I 110 (3 * i + 2)) ↔ yaV c (T (yps T i)) (yaa T i) (yab2 T i) := by
      rcases yaL_r (x := T (yps T i)) with z | z | z
      · omega
      · exact yaV_b z
      · rw [u3 z]
        exact Iff.rfl
    have g5' : ∀ k, k < 27 → I1 95 k = yAct n c be ca mo wi val (T (yps T i)) (yaa T i) (yab2 T i) (I 95) k := fun k hk => by
      rw [g5 k hk, hbe, h98, h96, h97]
      rcases yaL_r (x := T (yps T i)) with z | z | z
      · omega
      · rw [yAct_b z]
      · rw [u3 z]
        rfl
    rw [qX8_year_h72_eq, if_neg (fun z => by have := (xr_le (by omega) (by omega)).mp z; omega), a3, a31, a32, c0, c1, c2, b0, b1, b2, if_pos (by omega), if_pos (by omega), if_pos (by omega), e0, e1]
    have g0' : xq_D xqP (d + 176) 186 [.ref 94, .int (T (yps T i)), .int (yaa T i), .int ((I, J, R).1 110 (3 * i + 2))] (I, J, R) = some (some (.int (if yaV c (T (yps T i)) (yaa T i) (I 110 (3 * i + 2)) then 1 else 0)), I1, J, R1) := g0
    rw [g0', xb_I1, yaN]
    by_cases hy : yaV c (T (yps T i)) (yaa T i) (yab2 T i)
    · rw [if_pos (hV.mpr hy), if_neg (by decide), if_pos hy, a1, yYS_T hy]
      have hw1 : yq_w c (I1 95) := yq_w_cg g5' (yAct_w hc hn hw)
      have hT1 : yk_t I1 102 q 40 = Tl := by
        rw [← hT]
        funext p
        unfold yk_t
        rw [g2 102 p (by decide) (by decide) (by decide) (by decide) (by omega)]
      obtain ⟨I', R', k0, k5, k1, k2⟩ := yr_h72w hn hc hq hK hv hL m (i + 1) I1 R1 (by omega) (yrF_cgA h2 g2 g3 (fun x hx => by have := hw1.1 x hx; omega)) (fun i hi => yaA_cg (k := K) (h3 i hi) (fun b _ => g2 110 b (by decide) (by decide) (by decide) (by decide) (by omega)) hi) hT1 ((g2 94 2 (by decide) (by decide) (by decide) (by decide) (by decide)).trans hbe) ((funext fun j => g2 98 j (by decide) (by decide) (by decide) (by decide) (by omega)).trans h98) ((funext fun j => g2 96 j (by decide) (by decide) (by decide) (by decide) (by omega)).trans h96) ((funext fun j => g2 97 j (by decide) (by decide) (by decide) (by decide) (by omega)).trans h97) hw1
      exact ⟨I', R', k0, fun k hk => (k5 k hk).trans (yYS_cg hc hn (fun _ _ => ⟨rfl, rfl, rfl⟩) m (i + 1) _ _ g5' hw1 k hk), fun k j q1 q2 q3 q4 q5 => (k1 k j q1 q2 q3 q4 q5).trans (g2 k j q1 q2 q3 q4 q5), fun k j q => (k2 k j q).trans (g3 k j q)⟩
    · rw [if_neg (fun z => hy (hV.mp z)), if_pos rfl, if_neg hy, yYS_F hy]
      exact ⟨I1, R1, rfl, fun k hk => by rw [g5' k hk, yAct_n hy], g2, g3⟩
theorem yr_h118w {v : Int32} {D M : Nat} (h : I 94 24 = Int32.ofNat M) (hM : M ≤ 12) (hD : D ≤ 100) : ∃ Ib : Nat → Nat → Int32, (D = 0 → Ib = I) ∧ (0 < D → Ib 94 24 = Int32.ofNat (if M = 12 then 12 else M + 1) ∧ (∀ k j, ¬ k = 105 → ¬ (k = 94 ∧ j = 24) → Ib k j = I k j) ∧ ∀ j, j < (if M = 12 then 12 else M + 1) → ∀ i, i < 27 → Ib 105 (27 * j + i) = if j = (if M = 12 then 12 else M + 1) - 1 then I 106 i else I 105 (27 * (if M = 12 then j + 1 else j) + i)) ∧ ∃ (I' : Nat → Nat → Int32) (J' : Nat → Nat → Int64), qX8_year_h118 (d + 2) v (Int32.ofNat D) (I, J, R) = some (some (.int (Int32.ofNat D)), I', J', R) ∧ ∀ k j, ¬ (k = 94 ∧ j = 10) → I' k j = Ib k j := by
  have b := xt_nat (n := D) (by omega)
  have e0 : (0 : Int32).toInt = 0 := by decide
  rw [qX8_year_h118_eq]
  by_cases hv : D = 0
  · rw [if_pos (show Int32.ofNat D ≤ 0 by rw [xt_le, b, e0]; omega)]
    exact ⟨I, fun _ => rfl, fun z => absurd hv (by omega), yr_h130⟩
  · rw [if_neg (show ¬ Int32.ofNat D ≤ 0 by rw [xt_le, b, e0]; omega)]
    obtain ⟨Ib, r0, r1, r2, r3⟩ := yq_rem106 (d := d) (J := J) (R := R) h hM
    rw [r0, xb_V1]
    exact ⟨Ib, fun z => absurd z hv, fun _ => ⟨r1, r2, r3⟩, yr_h130⟩
end YU21
