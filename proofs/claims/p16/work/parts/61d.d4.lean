/-! HELD ROTAS: one rider more (the class) -/
/-- the least over some sets of hours of a rider -/
def yd_min (val : Nat → Int) (p lo : Nat) (x0 y : Int) : Prop := y ≤ x0 ∧ (∀ own, own &&& p = own → 0 < own → own ≤ lo → y ≤ val own) ∧ (y = x0 ∨ ∃ own, own &&& p = own ∧ 0 < own ∧ own ≤ lo ∧ y = val own)
section YDD
variable {d full may : Nat} {I : Nat → Nat → Int32} {R : Nat → Nat → Nat}
theorem yd_inner {t part : Nat} {v1 : Int32} {J : Nat → Nat → Int64} (ht : t < 256) (ht0 : 0 < t) (hp : part &&& t = part) (hb : ∀ own, own &&& part = own → 0 ≤ (J 72 (t ^^^ own)).toInt ∧ (J 72 (t ^^^ own)).toInt ≤ yd_NO ∧ 0 ≤ (J 71 own).toInt ∧ (J 71 own).toInt ≤ yd_NO) : ∀ (own : Nat) (low : Int64), own &&& part = own → ∃ y : Int64, qX4_addLeast_h24 d v1 (Int32.ofNat t) (Int32.ofNat part) low (Int32.ofNat own) (I, J, R) = qX4_addLeast_h5 d v1 (Int32.ofNat (t - 1)) (I, xq_upd J 72 t y, R) ∧ yd_min (fun x => (J 72 (t ^^^ x)).toInt + (J 71 x).toInt) part own low.toInt y.toInt := by
  intro own
  induction own using Nat.strongRecOn with
  | _ own ih =>
    intro low ho
    have hot : own &&& t = own := yd_ss.mpr (fun i hi => yd_ss.mp hp i (yd_ss.mp ho i hi))
    have hole := yd_le hot
    have c1 := xt_nat (n := t) (by omega)
    have c2 : (Int32.ofNat t).toInt.toNat = t := by omega
    have hm1 : Int32.ofNat t + (-1 : Int32) = Int32.ofNat (t - 1) := by
      have := yd_sub1 (a := t) ht0
      rw [← this]
      grind
    by_cases h0 : own = 0
    · subst h0
      rw [qX4_addLeast_h24_eq, if_pos (by decide), c2, c1, if_pos (by omega), hm1]
      exact ⟨low, rfl, Int.le_refl _, fun x _ h1 h2 => absurd h1 (by omega), Or.inl rfl⟩
    · have hle : ¬ Int32.ofNat own ≤ (0 : Int32) := fun z => by
        have := (xr_le (a := own) (b := 0) (by omega) (by omega)).mp z
        omega
      have hx := yd_xlt hot
      have d1 := xt_nat (n := t ^^^ own) (by omega)
      have d2 : (Int32.ofNat (t ^^^ own)).toInt.toNat = t ^^^ own := by omega
      have e1 := xt_nat (n := own) (by omega)
      have e2 : (Int32.ofNat own).toInt.toNat = own := by omega
      obtain ⟨k1, k2, k3, k4⟩ := hb own ho
      have hNO : yd_NO = 1152921504606846976 := rfl
      have hv : ((J 72 (t ^^^ own)) + (J 71 own)).toInt = (J 72 (t ^^^ own)).toInt + (J 71 own).toInt := yl_add (by omega) (by omega)
      -- what follows
      have next : ∀ low' : Int64, (low' = low ∨ low' = (J 72 (t ^^^ own)) + (J 71 own)) → low'.toInt ≤ low.toInt → low'.toInt ≤ ((J 72 (t ^^^ own)) + (J 71 own)).toInt → ∃ y : Int64, qX4_addLeast_h24 d v1 (Int32.ofNat t) (Int32.ofNat part) low' ((Int32.ofNat own - (1 : Int32)) &&& Int32.ofNat part) (I, J, R) = qX4_addLeast_h5 d v1 (Int32.ofNat (t - 1)) (I, xq_upd J 72 t y, R) ∧ yd_min (fun x => (J 72 (t ^^^ x)).toInt + (J 71 x).toInt) part own low.toInt y.toInt := by
        intro low' h1 h2 h3
        rw [yd_sub1 (by omega), yd_and]
        have hs : ((own - 1) &&& part) &&& part = (own - 1) &&& part := yd_ss.mpr (fun i hi => by
          rw [Nat.testBit_and] at hi
          simp only [Bool.and_eq_true] at hi
          exact hi.2)
        have hlt : (own - 1) &&& part < own := Nat.lt_of_le_of_lt Nat.and_le_left (by omega)
        obtain ⟨y, y1, y2, y3, y4⟩ := ih _ hlt low' hs
        refine ⟨y, y1, by omega, fun x g1 g2 g3 => ?_, ?_⟩
        · by_cases e : x = own
          · subst e
            show y.toInt ≤ (J 72 (t ^^^ x)).toInt + (J 71 x).toInt
            omega
          · exact y3 x g1 g2 (yd_prev own part x ho g1 (by omega))
        · rcases y4 with q | ⟨x, q1, q2, q3, q4⟩
          · rcases h1 with rfl | rfl
            · exact Or.inl q
            · refine Or.inr ⟨own, ho, by omega, Nat.le_refl _, ?_⟩
              show y.toInt = (J 72 (t ^^^ own)).toInt + (J 71 own).toInt
              omega
          · exact Or.inr ⟨x, q1, q2, by omega, q4⟩
      rw [qX4_addLeast_h24_eq, if_neg hle, yd_xor, d2, d1, if_pos (by omega), e2, e1, if_pos (by omega)]
      show ∃ y : Int64, (if 0 ≤ lg_cmp ((J 72 (t ^^^ own)) + (J 71 own)) low then qX4_addLeast_h60 d v1 (Int32.ofNat t) (Int32.ofNat part) low (Int32.ofNat own) ((J 72 (t ^^^ own)) + (J 71 own)) (I, J, R) else qX4_addLeast_h60a d v1 (Int32.ofNat t) (Int32.ofNat part) ((J 72 (t ^^^ own)) + (J 71 own)) (Int32.ofNat own) (I, J, R)) = _ ∧ _
      have hc : (0 ≤ lg_cmp ((J 72 (t ^^^ own)) + (J 71 own)) low) ↔ low.toInt ≤ ((J 72 (t ^^^ own)) + (J 71 own)).toInt := by
        have e0 : (0 : Int32).toInt = 0 := by decide
        rw [xt_le, e0]
        rcases yl_cmp (x := (J 72 (t ^^^ own)) + (J 71 own)) (y := low) with ⟨q1, q2⟩ | ⟨q1, q2⟩ | ⟨q1, q2⟩ <;> omega
      by_cases g : low.toInt ≤ ((J 72 (t ^^^ own)) + (J 71 own)).toInt
      · rw [if_pos (hc.mpr g), qX4_addLeast_h60_eq]
        exact next low (Or.inl rfl) (Int.le_refl _) g
      · rw [if_neg (fun z => g (hc.mp z)), qX4_addLeast_h60a_eq]
        exact next _ (Or.inr rfl) (by omega) (Int.le_refl _)
/-- all sets, larger ones first -/
theorem yd_outer (hmay : may < 256) : ∀ (t : Nat) (J : Nat → Nat → Int64), t < 256 → (∀ x, x ≤ t → 0 ≤ (J 72 x).toInt ∧ (J 72 x).toInt ≤ yd_NO) → (∀ own, own ≤ t → own &&& may = own → 0 ≤ (J 71 own).toInt ∧ (J 71 own).toInt ≤ yd_NO) → ∃ J', qX4_addLeast_h5 d (Int32.ofNat may) (Int32.ofNat t) (I, J, R) = some (none, I, J', R) ∧ (∀ k j, ¬ k = 72 → J' k j = J k j) ∧ (∀ x, t < x → J' 72 x = J 72 x) ∧ J' 72 0 = J 72 0 ∧ ∀ x, x ≤ t → 0 < x → yd_min (fun y => (J 72 (x ^^^ y)).toInt + (J 71 y).toInt) (x &&& may) (x &&& may) (J 72 x).toInt (J' 72 x).toInt
  | 0, J, ht, hb, hw => by
    rw [qX4_addLeast_h5_eq, if_pos (by decide)]
    exact ⟨J, rfl, fun _ _ _ => rfl, fun _ _ => rfl, rfl, fun x h1 h2 => absurd h2 (by omega)⟩
  | t + 1, J, ht, hb, hw => by
    have hle : ¬ Int32.ofNat (t + 1) ≤ (0 : Int32) := fun z => by
      have := (xr_le (a := t + 1) (b := 0) (by omega) (by omega)).mp z
      omega
    have c1 := xt_nat (n := t + 1) (by omega)
    have c2 : (Int32.ofNat (t + 1)).toInt.toNat = t + 1 := by omega
    have hp : ((t + 1) &&& may) &&& (t + 1) = (t + 1) &&& may := yd_ss.mpr (fun i hi => by
      rw [Nat.testBit_and] at hi
      simp only [Bool.and_eq_true] at hi
      exact hi.1)
    have hpm : ∀ own, own &&& ((t + 1) &&& may) = own → own &&& (t + 1) = own ∧ own &&& may = own := fun own ho => ⟨yd_ss.mpr (fun i hi => yd_ss.mp hp i (yd_ss.mp ho i hi)), yd_ss.mpr (fun i hi => by
      have := yd_ss.mp ho i hi
      rw [Nat.testBit_and] at this
      simp only [Bool.and_eq_true] at this
      exact this.2)⟩
    rw [qX4_addLeast_h5_eq, if_neg hle, c2, c1, if_pos (by omega), yd_and]
    obtain ⟨y, y1, y2⟩ := yd_inner (d := d) (I := I) (R := R) (v1 := Int32.ofNat may) (t := t + 1) (part := (t + 1) &&& may) (J := J) (by omega) (by omega) hp (fun own ho => by
      obtain ⟨g1, g2⟩ := hpm own ho
      have a1 := hb ((t + 1) ^^^ own) (yd_xlt g1)
      have a2 := hw own (yd_le g1) g2
      exact ⟨a1.1, a1.2, a2.1, a2.2⟩) ((t + 1) &&& may) (J 72 (t + 1)) (by rw [Nat.and_self])
    rw [show ((I, J, R) : xq_S).2.1 72 (t + 1) = J 72 (t + 1) from rfl, y1]
    obtain ⟨J', x1, x2, x3, x4, x5⟩ := yd_outer hmay t (xq_upd J 72 (t + 1) y) (by omega) (fun x hx => by rw [xu_j (by omega)]; exact hb x (by omega)) (fun own h1 h2 => by rw [xu_k (by decide)]; exact hw own (by omega) h2)
    refine ⟨J', x1, fun k j hk => (x2 k j hk).trans (xu_k hk), fun x hx => ?_, x4.trans (xu_j (by omega)), fun x hx hx0 => ?_⟩
    · rw [x3 x (by omega), xu_j (by omega)]
    · by_cases e : x = t + 1
      · subst e
        rw [x3 (t + 1) (by omega), xu_t]
        exact y2
      · have h5 := x5 x (by omega) hx0
        have ev : ∀ own, own &&& (x &&& may) = own → (xq_upd J 72 (t + 1) y 72 (x ^^^ own)).toInt + (xq_upd J 72 (t + 1) y 71 own).toInt = (J 72 (x ^^^ own)).toInt + (J 71 own).toInt := fun own ho => by
          have h1 : own &&& x = own := yd_ss.mpr (fun i hi => by
            have := yd_ss.mp ho i hi
            rw [Nat.testBit_and] at this
            simp only [Bool.and_eq_true] at this
            exact this.1)
          have := yd_xlt h1
          rw [xu_j (by omega), xu_k (by decide)]
        rw [xu_j (by omega)] at h5
        obtain ⟨g1, g2, g3⟩ := h5
        refine ⟨g1, fun own h1 h2 h3 => ?_, ?_⟩
        · have := g2 own h1 h2 h3
          show (J' 72 x).toInt ≤ (J 72 (x ^^^ own)).toInt + (J 71 own).toInt
          rw [← ev own h1]
          exact this
        · rcases g3 with q | ⟨own, q1, q2, q3, q4⟩
          · exact Or.inl q
          · refine Or.inr ⟨own, q1, q2, q3, ?_⟩
            show (J' 72 x).toInt = (J 72 (x ^^^ own)).toInt + (J 71 own).toInt
            rw [← ev own q1]
            exact q4
end YDD
