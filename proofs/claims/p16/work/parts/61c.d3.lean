/-! HELD ROTAS: what each set of hours weighs (the class) -/
def yd_NO : Int := 1152921504606846976
def yd_w (fl : Int) (f : Nat → Int) (s : Nat) : Int := if s = 0 then 0 else yd_S f s 8 + fl
def yd_wt (cap lim fl : Int) (f : Nat → Int) (s : Nat) : Int := if (yd_pc s : Int) ≤ cap ∧ yd_w fl f s ≤ lim then yd_w fl f s else yd_NO
theorem yd_ix : ∀ r : Nat, r < 8 → ∀ l : Nat, l < 8 → (Int32.ofNat r * 8 + Int32.ofNat l).toInt = ((8 * r + l : Nat) : Int) := by decide +kernel
theorem yd_wlo {fl : Int} {f : Nat → Int} {s : Nat} (hs : s < 256) (h0 : 0 < s) : yd_w fl f s = (if s &&& (s - 1) = 0 then 0 else yd_w fl f (s &&& (s - 1))) + f (yd_lo s) + (if s &&& (s - 1) = 0 then fl else 0) := by
  obtain ⟨k1, k2, k3, k4⟩ := yd_lo1 s hs h0
  have e := yd_S_lo (f := f) (n := 8) k1 k2 k4
  unfold yd_w
  rw [if_neg (by omega), e]
  by_cases h : s &&& (s - 1) = 0
  · rw [if_pos h, if_pos h, h, yd_S_0]
    all_goals omega
  · rw [if_neg h, if_neg h, if_neg h]
    all_goals omega
section YDC
variable {d r full may : Nat} {I : Nat → Nat → Int32} {R : Nat → Nat → Nat} {f : Nat → Int} {cap lim fl : Int}
theorem yd_weighl (hr : r < 8) (hfull : full < 256) (hmay : may < 256) (i13 : I 64 13 = Int32.ofNat full) (i65 : I 65 r = Int32.ofNat may) (i66 : (I 66 r).toInt = cap) (hlim : 0 ≤ lim ∧ lim < yd_NO) (hfl : 0 ≤ fl ∧ fl ≤ 68719476736) (hf : ∀ h, h < 8 → 0 ≤ f h ∧ f h ≤ 68719476736) (hc0 : 0 ≤ cap) : ∀ (m s : Nat) (J : Nat → Nat → Int64), s + m = full + 1 → 1 ≤ s → (∀ h, h < 8 → (J 69 (8 * r + h)).toInt = f h) → (J 70 r).toInt = fl → (J 64 14).toInt = lim → (∀ t, t < s → t &&& may = t → (J 71 t).toInt = yd_wt cap lim fl f t) → ∃ J', qX4_weigh_h9 (d + 2) (Int32.ofNat r) (Int32.ofNat s) (I, J, R) = some (none, I, J', R) ∧ (∀ k j, ¬ k = 71 → J' k j = J k j) ∧ ∀ t, t ≤ full → t &&& may = t → (J' 71 t).toInt = yd_wt cap lim fl f t
  | 0, s, J, hm, hs, j69, j70, j64, h71 => by
    have hI : (I, J, R).1 64 13 = Int32.ofNat full := i13
    rw [qX4_weigh_h9_eq, hI, if_pos ((xr_lt (by omega) (by omega)).mpr (by omega))]
    exact ⟨J, rfl, fun _ _ _ => rfl, fun t ht h => h71 t (by omega) h⟩
  | m + 1, s, J, hm, hs, j69, j70, j64, h71 => by
    have hI : (I, J, R).1 64 13 = Int32.ofNat full := i13
    have hs256 : s < 256 := by omega
    have b1 := xt_nat (n := r) (by omega)
    have b2 : (Int32.ofNat r).toInt.toNat = r := by omega
    have c1 := xt_nat (n := s) (by omega)
    have c2 : (Int32.ofNat s).toInt.toNat = s := by omega
    have a1 : Int32.ofNat s + (1 : Int32) = Int32.ofNat (s + 1) := (Int32.ofNat_add s 1).symm
    have hI65 : (I, J, R).1 65 r = Int32.ofNat may := i65
    have hI66 : ∀ J : Nat → Nat → Int64, ((I, J, R) : xq_S).1 66 r = I 66 r := fun _ => rfl
    -- what follows
    have next : ∀ x : Int64, (s &&& may = s → x.toInt = yd_wt cap lim fl f s) → ∃ J', qX4_weigh_h9 (d + 2) (Int32.ofNat r) (Int32.ofNat (s + 1)) (I, xq_upd J 71 s x, R) = some (none, I, J', R) ∧ (∀ k j, ¬ k = 71 → J' k j = J k j) ∧ ∀ t, t ≤ full → t &&& may = t → (J' 71 t).toInt = yd_wt cap lim fl f t := by
      intro x hx
      obtain ⟨J', x1, x2, x3⟩ := yd_weighl hr hfull hmay i13 i65 i66 hlim hfl hf hc0 m (s + 1) (xq_upd J 71 s x) (by omega) (by omega) (fun h hh => by rw [xu_k (by decide)]; exact j69 h hh) (by rw [xu_k (by decide)]; exact j70) (by rw [xu_k (by decide)]; exact j64) (fun t ht h => by
        by_cases e : t = s
        · subst e
          rw [xu_t]
          exact hx h
        · rw [xu_j e]
          exact h71 t (by omega) h)
      exact ⟨J', x1, fun k j hk => (x2 k j hk).trans (xu_k hk), x3⟩
    rw [qX4_weigh_h9_eq, hI, if_neg (fun z => by have := (xr_lt (by omega) (by omega)).mp z; omega), b2, b1, if_pos (by omega), hI65]
    by_cases hsub : s &&& may = s
    · rw [if_pos ((yd_ss0 hs256 hmay).mpr hsub), yd_sub1 (by omega), yd_and]
      obtain ⟨k1, k2, k3, k4⟩ := yd_lo1 s hs256 (by omega)
      have d1 := xt_nat (n := s &&& (s - 1)) (by omega)
      have d2 : (Int32.ofNat (s &&& (s - 1))).toInt.toNat = s &&& (s - 1) := by omega
      have e1 := yd_ix r hr (yd_lo s) k1
      have e2 : (Int32.ofNat r * 8 + Int32.ofNat (yd_lo s)).toInt.toNat = 8 * r + yd_lo s := by omega
      have hlo : xq_D xqP (d + 2) 143 [.int (Int32.ofNat s)] (I, J, R) = some (some (.int (Int32.ofNat (yd_lo s))), I, J, R) := by
        rw [qX7_lowest_eq, yc_bc, xb_I1, yd_lo0 s hs256 (by omega)]
      have hz : (Int32.ofNat (s &&& (s - 1)) = (0 : Int32)) ↔ s &&& (s - 1) = 0 := by
        constructor
        · intro z
          have := congrArg Int32.toInt z
          rw [d1] at this
          have e0 : (0 : Int32).toInt = 0 := by decide
          omega
        · intro z
          rw [z]
          rfl
      rw [d2, d1, if_pos (by omega), hlo, xb_I1, e2, e1, if_pos (by omega)]
      have hrs : (s &&& (s - 1)) &&& s = s &&& (s - 1) := yd_ss.mpr (fun i hi => by
        rw [Nat.testBit_and] at hi
        simp only [Bool.and_eq_true] at hi
        exact hi.1)
      have hrm : (s &&& (s - 1)) &&& may = s &&& (s - 1) := yd_ss.mpr (fun i hi => yd_ss.mp hsub i (yd_ss.mp hrs i hi))
      have w1 := h71 (s &&& (s - 1)) (by omega) hrm
      have w2 := j69 (yd_lo s) k1
      have hfl0 := hf (yd_lo s) k1
      have hpc := yd_pc_le hrs
      have hwl := yd_wlo (fl := fl) (f := f) hs256 (by omega)
      have hNO : yd_NO = 1152921504606846976 := rfl
      have hwr : 0 ≤ yd_w fl f (s &&& (s - 1)) ∧ yd_w fl f (s &&& (s - 1)) ≤ 1000000000000 := by
        unfold yd_w
        have := yd_S_r (s := s &&& (s - 1)) (n := 8) hf
        split <;> omega
      -- h78
      have h78 : ∀ (w0 x : Int64), x.toInt = (J 71 (s &&& (s - 1))).toInt + (J 69 (8 * r + yd_lo s)).toInt → w0.toInt = (if s &&& (s - 1) = 0 then fl else 0) → ∃ J', qX4_weigh_h78 (d + 2) (Int32.ofNat r) (Int32.ofNat s) w0 x (I, J, R) = some (none, I, J', R) ∧ (∀ k j, ¬ k = 71 → J' k j = J k j) ∧ ∀ t, t ≤ full → t &&& may = t → (J' 71 t).toInt = yd_wt cap lim fl f t := by
        intro w0 x hx hw0
        have hw0' : 0 ≤ w0.toInt ∧ w0.toInt ≤ 68719476736 := by
          rw [hw0]
          split <;> omega
        have hwt : 0 ≤ yd_wt cap lim fl f (s &&& (s - 1)) ∧ yd_wt cap lim fl f (s &&& (s - 1)) ≤ yd_NO := by
          unfold yd_wt
          split <;> omega
        have hv : (x + w0).toInt = yd_wt cap lim fl f (s &&& (s - 1)) + f (yd_lo s) + w0.toInt := by
          rw [yl_add (by omega) (by omega), hx, w1, w2]
        have hno : ((1152921504606846976 : Int64)).toInt = yd_NO := by decide
        have hcase : (yd_wt cap lim fl f (s &&& (s - 1)) = (if s &&& (s - 1) = 0 then 0 else yd_w fl f (s &&& (s - 1)))) ∨ (yd_wt cap lim fl f (s &&& (s - 1)) = yd_NO ∧ ¬ ((yd_pc s : Int) ≤ cap ∧ yd_w fl f s ≤ lim)) := by
          by_cases g : (yd_pc (s &&& (s - 1)) : Int) ≤ cap ∧ yd_w fl f (s &&& (s - 1)) ≤ lim
          · left
            unfold yd_wt
            rw [if_pos g]
            by_cases z : s &&& (s - 1) = 0
            · rw [if_pos z, z]
              rfl
            · rw [if_neg z]
          · right
            refine ⟨by unfold yd_wt; rw [if_neg g], fun z => g ⟨by omega, ?_⟩⟩
            have z2 := z.2
            rw [hwl] at z2
            by_cases q : s &&& (s - 1) = 0
            · rw [q]
              show yd_w fl f 0 ≤ lim
              have : yd_w fl f 0 = 0 := rfl
              omega
            · rw [if_neg q, if_neg q] at z2
              omega
        rw [qX4_weigh_h78_eq, yc_bc, xb_I1, yd_bc0 s hs256, b2, b1, if_pos (by omega)]
        have hp := xt_nat (n := yd_pc s) (by have := yd_pc8 s; omega)
        have hlt : (I 66 r < Int32.ofNat (yd_pc s)) ↔ cap < (yd_pc s : Int) := by
          rw [xt_lt, hp, i66]
        have hit : ∃ y : Int64, (if (((I, J, R) : xq_S).1 66 r) < Int32.ofNat (yd_pc s) then qX4_weigh_h109 (d + 2) (Int32.ofNat r) (Int32.ofNat s) (x + w0) (Int32.ofNat s) (I, J, R) else if (lg_cmp (x + w0) (((I, J, R) : xq_S).2.1 64 14)) ≤ 0 then (if 0 ≤ (Int32.ofNat s).toInt ∧ (Int32.ofNat s).toInt < ((256 : Nat) : Int) then (qX4_weigh_h9 (d + 2) (Int32.ofNat r) (Int32.ofNat s + (1 : Int32)) (((I, J, R) : xq_S).1, (xq_upd ((I, J, R) : xq_S).2.1 71 (Int32.ofNat s).toInt.toNat (x + w0)), ((I, J, R) : xq_S).2.2)) else none) else qX4_weigh_h109 (d + 2) (Int32.ofNat r) (Int32.ofNat s) (x + w0) (Int32.ofNat s) (I, J, R)) = qX4_weigh_h9 (d + 2) (Int32.ofNat r) (Int32.ofNat (s + 1)) (I, xq_upd J 71 s y, R) ∧ y.toInt = yd_wt cap lim fl f s := by
          have bad : (¬ ((yd_pc s : Int) ≤ cap ∧ yd_w fl f s ≤ lim)) → qX4_weigh_h109 (d + 2) (Int32.ofNat r) (Int32.ofNat s) (x + w0) (Int32.ofNat s) (I, J, R) = qX4_weigh_h9 (d + 2) (Int32.ofNat r) (Int32.ofNat (s + 1)) (I, xq_upd J 71 s 1152921504606846976, R) ∧ ((1152921504606846976 : Int64)).toInt = yd_wt cap lim fl f s := by
            intro g
            rw [qX4_weigh_h109_eq, c2, c1, if_pos (by omega), a1]
            refine ⟨rfl, ?_⟩
            unfold yd_wt
            rw [if_neg g, hno]
          show ∃ y, (if I 66 r < Int32.ofNat (yd_pc s) then _ else if lg_cmp (x + w0) (J 64 14) ≤ 0 then _ else _) = _ ∧ _
          by_cases g1 : cap < (yd_pc s : Int)
          · rw [if_pos (hlt.mpr g1)]
            exact ⟨_, bad (fun z => by omega)⟩
          · rw [if_neg (fun z => g1 (hlt.mp z))]
            have hle : (lg_cmp (x + w0) (J 64 14) ≤ 0) ↔ (x + w0).toInt ≤ lim := by
              have e0 : (0 : Int32).toInt = 0 := by decide
              rw [xt_le, e0, ← j64]
              rcases yl_cmp (x := x + w0) (y := J 64 14) with ⟨q1, q2⟩ | ⟨q1, q2⟩ | ⟨q1, q2⟩ <;> omega
            by_cases g2 : (x + w0).toInt ≤ lim
            · rw [if_pos (hle.mpr g2), c2, c1, if_pos (by omega), a1]
              refine ⟨x + w0, rfl, ?_⟩
              rcases hcase with q | ⟨q, -⟩
              · have e9 : (x + w0).toInt = yd_w fl f s := by rw [hv, q, hw0, hwl]
                unfold yd_wt
                rw [if_pos ⟨by omega, by omega⟩, e9]
              · omega
            · rw [if_neg (fun z => g2 (hle.mp z))]
              refine ⟨_, bad (fun z => g2 ?_)⟩
              rcases hcase with q | ⟨q, q2⟩
              · have e9 : (x + w0).toInt = yd_w fl f s := by rw [hv, q, hw0, hwl]
                omega
              · exact absurd z q2
        obtain ⟨y, hy1, hy2⟩ := hit
        rw [hy1]
        exact next y (fun _ => hy2)
      have hwt : 0 ≤ yd_wt cap lim fl f (s &&& (s - 1)) ∧ yd_wt cap lim fl f (s &&& (s - 1)) ≤ yd_NO := by
        unfold yd_wt
        split <;> omega
      have hsum : ((((I, J, R) : xq_S).2.1 71 (s &&& (s - 1))) + (((I, J, R) : xq_S).2.1 69 (8 * r + yd_lo s))).toInt = (J 71 (s &&& (s - 1))).toInt + (J 69 (8 * r + yd_lo s)).toInt := yl_add (by show -9223372036854775808 ≤ (J 71 (s &&& (s - 1))).toInt + (J 69 (8 * r + yd_lo s)).toInt; omega) (by show (J 71 (s &&& (s - 1))).toInt + (J 69 (8 * r + yd_lo s)).toInt ≤ _; omega)
      by_cases hz0 : s &&& (s - 1) = 0
      · rw [if_neg (fun z => z (hz.mpr hz0)), if_pos (by omega)]
        exact h78 _ _ hsum (by rw [if_pos hz0]; exact j70)
      · rw [if_pos (fun z => hz0 (hz.mp z))]
        exact h78 0 _ hsum (by rw [if_neg hz0]; decide)
    · rw [if_neg (fun z => hsub ((yd_ss0 hs256 hmay).mp z)), a1]
      obtain ⟨J', x1, x2, x3⟩ := next (J 71 s) (fun z => absurd z hsub)
      have eJ : xq_upd J 71 s (J 71 s) = J := by
        funext k j
        unfold xq_upd
        by_cases z : k = 71 ∧ j = s
        · rw [if_pos z, z.1, z.2]
        · rw [if_neg z]
      rw [eJ] at x1
      exact ⟨J', x1, x2, x3⟩
theorem yd_weigh {J : Nat → Nat → Int64} (hr : r < 8) (hfull : full < 256) (hmay : may < 256) (i13 : I 64 13 = Int32.ofNat full) (i65 : I 65 r = Int32.ofNat may) (i66 : (I 66 r).toInt = cap) (hlim : 0 ≤ lim ∧ lim < yd_NO) (hfl : 0 ≤ fl ∧ fl ≤ 68719476736) (hf : ∀ h, h < 8 → 0 ≤ f h ∧ f h ≤ 68719476736) (hc0 : 0 ≤ cap) (j69 : ∀ h, h < 8 → (J 69 (8 * r + h)).toInt = f h) (j70 : (J 70 r).toInt = fl) (j64 : (J 64 14).toInt = lim) : ∃ J', xq_D xqP (d + 3) 84 [.ref 64, .int (Int32.ofNat r)] (I, J, R) = some (none, I, J', R) ∧ (∀ k j, ¬ k = 71 → J' k j = J k j) ∧ ∀ t, t ≤ full → t &&& may = t → (J' 71 t).toInt = yd_wt cap lim fl f t := by
  rw [qX4_weigh_eq]
  obtain ⟨J', x1, x2, x3⟩ := yd_weighl (d := d) (R := R) hr hfull hmay i13 i65 i66 hlim hfl hf hc0 full 1 (xq_upd J 71 0 0) (by omega) (Nat.le_refl _) (fun h hh => by rw [xu_k (by decide)]; exact j69 h hh) (by rw [xu_k (by decide)]; exact j70) (by rw [xu_k (by decide)]; exact j64) (fun t ht h => by
    obtain rfl : t = 0 := by omega
    rw [xu_t]
    unfold yd_wt
    have e1 : yd_w fl f 0 = 0 := rfl
    have e2 : yd_pc 0 = 0 := by decide
    rw [if_pos ⟨by rw [e2]; exact hc0, by rw [e1]; exact hlim.1⟩, e1]
    decide)
  exact ⟨J', x1, fun k j hk => (x2 k j hk).trans (xu_k hk), x3⟩
end YDC
