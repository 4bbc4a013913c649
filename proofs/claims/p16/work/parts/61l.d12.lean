/-! HELD ROTAS: solve() of the reference: a rider -/
/-- the least over the sets of hours of a rider that were looked at -/
def yd_acc (ok : Nat → Prop) (w B : Nat → Int) (P : Nat → Prop) (t : Nat) (y : Int) : Prop := (0 ≤ y ∧ y ≤ yd_FAR) ∧ (∀ own, P own → ok own → own &&& t = own → B (t ^^^ own) < yd_FAR → y ≤ B (t ^^^ own) + w own) ∧ (y = yd_FAR ∨ ∃ own, ok own ∧ own &&& t = own ∧ B (t ^^^ own) < yd_FAR ∧ y = B (t ^^^ own) + w own)
theorem yd_acc_P {ok : Nat → Prop} {w B : Nat → Int} {P P' : Nat → Prop} {t : Nat} {y : Int} (h : yd_acc ok w B P t y) (hp : ∀ own, P' own → ok own → P own) : yd_acc ok w B P' t y := ⟨h.1, fun own h1 h2 => h.2.1 own (hp own h1 h2) h2, h.2.2⟩
theorem yd_acc_cg {ok : Nat → Prop} {w B B' : Nat → Int} {P : Nat → Prop} {t full : Nat} {y : Int} (h : yd_acc ok w B P t y) (ht : t ≤ full) (hB : ∀ t, t ≤ full → B' t = B t) : yd_acc ok w B' P t y := by
  have g : ∀ own, own &&& t = own → B' (t ^^^ own) = B (t ^^^ own) := fun own ho => hB _ (by have := yd_xlt ho; omega)
  refine ⟨h.1, fun own h1 h2 h3 h4 => ?_, h.2.2.imp id (fun z => ?_)⟩
  · rw [g own h3] at h4 ⊢
    exact h.2.1 own h1 h2 h3 h4
  · obtain ⟨own, h1, h2, h3, h4⟩ := z
    exact ⟨own, h1, h2, by rw [g own h2]; exact h3, by rw [g own h2]; exact h4⟩
/-- the constants of a run -/
def yd_ag (I0 I : Nat → Nat → Int32) : Prop := ∀ k j, ¬ k = 116 → I k j = I0 k j
section YDM
variable {d n full r may : Nat} {I0 : Nat → Nat → Int32} {J : Nat → Nat → Int64} {R : Nat → Nat → Nat} {v1 : Int32} {okc : Nat → Prop} {w : Nat → Int}
/-- what canTake() and costOf() tell of a rider -/
def yd_cs (d : Nat) (I0 : Nat → Nat → Int32) (J : Nat → Nat → Int64) (R : Nat → Nat → Nat) (v1 : Int32) (r may : Nat) (okc : Nat → Prop) (w : Nat → Int) : Prop := ∀ I, yd_ag I0 I → ∀ own, own &&& may = own → (∃ a, xq_D xqP d 196 [.ref 94, .int (Int32.ofNat r), .int (Int32.ofNat own)] (I, J, R) = some (some (.int a), I, J, R) ∧ (okc own → a = 1) ∧ (¬ okc own → a = 0)) ∧ ∃ x, xq_D xqP d 199 [.ref 94, .int v1, .int (Int32.ofNat r), .int (Int32.ofNat own)] (I, J, R) = some (some (.int x), I, J, R) ∧ x.toInt = w own ∧ 0 ≤ w own ∧ w own ≤ 1000000
theorem yd_own (hn : n ≤ 8) (hfull : full = 2 ^ n - 1) (hr : r < 8) (hmf : may &&& full = may) (h1 : I0 94 1 = Int32.ofNat n) (h111 : I0 111 r = Int32.ofNat may) (hcs : yd_cs (d + 1) I0 J R v1 r may okc w) : ∀ (own : Nat) (I : Nat → Nat → Int32), own &&& may = own → yd_ag I0 I → (∀ t, t ≤ full → 0 ≤ (I 116 (256 * (r + 1) + t)).toInt ∧ (I 116 (256 * (r + 1) + t)).toInt ≤ yd_FAR) → (∀ t, t ≤ full → yd_acc (fun x => x &&& may = x ∧ okc x) w (fun t => (I 116 (256 * (r + 1) + t)).toInt) (fun x => own < x) t (I 116 (256 * r + t)).toInt) → ∃ I', qX8_solve_h87 (d + 1) v1 (Int32.ofNat r) (Int32.ofNat own) (I, J, R) = qX8_solve_h47 (d + 1) v1 (Int32.ofNat r + (-1 : Int32)) (I', J, R) ∧ yd_ag I0 I' ∧ (∀ j, ¬ (256 * r ≤ j ∧ j ≤ 256 * r + full) → I' 116 j = I 116 j) ∧ ∀ t, t ≤ full → yd_acc (fun x => x &&& may = x ∧ okc x) w (fun t => (I 116 (256 * (r + 1) + t)).toInt) (fun _ => True) t (I' 116 (256 * r + t)).toInt := by
  have hf := (yd_full n (by omega)).2
  rw [← hfull] at hf
  intro own
  induction own using Nat.strongRecOn with
  | _ own ih =>
    intro I ho hag hB hac
    have hof : own &&& full = own := yd_ss.mpr (fun i hi => yd_ss.mp hmf i (yd_ss.mp ho i hi))
    have hol := yd_le hof
    have hmay := yd_le hmf
    have b1 := xt_nat (n := r) (by omega)
    have b2 : (Int32.ofNat r).toInt.toNat = r := by omega
    have hneg : ¬ Int32.ofNat own < (0 : Int32) := fun z => by
      have := xt_lt.mp z
      rw [xt_nat (by omega)] at this
      have e0 : (0 : Int32).toInt = 0 := by decide
      omega
    have hz : (¬ Int32.ofNat own = (0 : Int32)) ↔ ¬ own = 0 := by
      constructor
      · intro z q
        exact z (by rw [q]; rfl)
      · intro z q
        have := congrArg Int32.toInt q
        rw [xt_nat (by omega)] at this
        have e0 : (0 : Int32).toInt = 0 := by decide
        omega
    -- what follows
    have next : ∀ I2 : Nat → Nat → Int32, yd_ag I0 I2 → (∀ j, ¬ (256 * r ≤ j ∧ j ≤ 256 * r + full) → I2 116 j = I 116 j) → (∀ t, t ≤ full → yd_acc (fun x => x &&& may = x ∧ okc x) w (fun t => (I 116 (256 * (r + 1) + t)).toInt) (fun x => own ≤ x) t (I2 116 (256 * r + t)).toInt) → ∃ I', (if ¬ Int32.ofNat own = (0 : Int32) then (if 0 ≤ (Int32.ofNat r).toInt ∧ (Int32.ofNat r).toInt < ((8 : Nat) : Int) then (qX8_solve_h229 (d + 1) v1 (Int32.ofNat r) ((Int32.ofNat own - (1 : Int32)) &&& (((I2, J, R) : xq_S).1 111 (Int32.ofNat r).toInt.toNat)) (I2, J, R)) else none) else qX8_solve_h229 (d + 1) v1 (Int32.ofNat r) (-1 : Int32) (I2, J, R)) = qX8_solve_h47 (d + 1) v1 (Int32.ofNat r + (-1 : Int32)) (I', J, R) ∧ yd_ag I0 I' ∧ (∀ j, ¬ (256 * r ≤ j ∧ j ≤ 256 * r + full) → I' 116 j = I 116 j) ∧ ∀ t, t ≤ full → yd_acc (fun x => x &&& may = x ∧ okc x) w (fun t => (I 116 (256 * (r + 1) + t)).toInt) (fun _ => True) t (I' 116 (256 * r + t)).toInt := by
      intro I2 hag2 hfr2 hac2
      have hBc : ∀ t, t ≤ full → (I2 116 (256 * (r + 1) + t)).toInt = (I 116 (256 * (r + 1) + t)).toInt := fun t ht => by rw [hfr2 _ (by omega)]
      by_cases h0 : own = 0
      · rw [if_neg (fun z => hz.mp z h0), qX8_solve_h229_eq, qX8_solve_h87_eq, if_pos (by decide)]
        exact ⟨I2, rfl, hag2, hfr2, fun t ht => yd_acc_P (hac2 t ht) (fun x _ _ => by omega)⟩
      · have g111 : ((I2, J, R) : xq_S).1 111 r = Int32.ofNat may := (hag2 111 r (by decide)).trans h111
        rw [if_pos (hz.mpr h0), b2, b1, if_pos (by omega), g111, yd_sub1 (by omega), yd_and, qX8_solve_h229_eq]
        have hs : ((own - 1) &&& may) &&& may = (own - 1) &&& may := yd_ss.mpr (fun i hi => by
          rw [Nat.testBit_and] at hi
          simp only [Bool.and_eq_true] at hi
          exact hi.2)
        have hlt : (own - 1) &&& may < own := Nat.lt_of_le_of_lt Nat.and_le_left (by omega)
        obtain ⟨I', y1, y2, y3, y4⟩ := ih _ hlt I2 hs hag2 (fun t ht => by rw [hBc t ht]; exact hB t ht) (fun t ht => yd_acc_P (yd_acc_cg (hac2 t ht) ht hBc) (fun x hx hk => by
          refine Decidable.byContradiction fun z => ?_
          have := yd_prev own may x ho hk.1 (by omega)
          have hx : (own - 1) &&& may < x := hx
          omega))
        exact ⟨I', y1, y2, fun j hj => (y3 j hj).trans (hfr2 j hj), fun t ht => yd_acc_cg (y4 t ht) ht (fun t ht => (hBc t ht).symm)⟩
    obtain ⟨⟨a, c1, c2, c3⟩, x, c4, c5, c6, c7⟩ := hcs I hag own ho
    rw [qX8_solve_h87_eq, if_neg hneg, c1, xb_I1]
    by_cases hok : okc own
    · have hn1 : ((I, J, R) : xq_S).1 94 1 = Int32.ofNat n := (hag 94 1 (by decide)).trans h1
      rw [c2 hok, if_pos (by decide), c4, xb_I1, qX8_night_eq, hn1, (yd_full n (by omega)).1, xb_I1, ← hfull, yd_dif, yd_rest hf hof]
      obtain ⟨I2, y1, y2, y3, y4⟩ := yd_left (d := d + 1) (J := J) (R := R) (v1 := v1) (x := x) hn hfull hr hof (by omega) (full ^^^ own) I (by rw [Nat.and_self]) (fun t ht => ⟨(hB t ht).1, (hB t ht).2, (hac t ht).1.1, (hac t ht).1.2⟩)
      rw [y1, qX8_solve_h126_eq, if_pos (by decide)]
      refine next I2 (fun k j hk => (y2 k j hk).trans (hag k j hk)) y3 (fun t ht => ?_)
      obtain ⟨p1, p2⟩ := y4 t ht
      obtain ⟨q1, q2, q3⟩ := hac t ht
      by_cases g : own &&& t = own ∧ (I 116 (256 * (r + 1) + (t ^^^ own))).toInt < yd_FAR
      · have hll : ((t ^^^ own : Nat) : Int) ≤ ((full ^^^ own : Nat) : Int) := by
          have ht2 : t &&& full = t := by rw [hfull]; exact yd_sub2 (by omega)
          have : (t ^^^ own) &&& (full ^^^ own) = t ^^^ own := yd_ss.mpr (fun i hi => by
            rw [yd_tb g.1] at hi
            simp only [Bool.and_eq_true, Bool.not_eq_true'] at hi
            rw [yd_tb hof, yd_ss.mp ht2 i hi.1, hi.2]
            rfl)
          have := yd_le this
          omega
        have p1 := p1 ⟨g.1, hll, g.2⟩
        have p1 : (I2 116 (256 * r + t)).toInt = if (I 116 (256 * (r + 1) + (t ^^^ own))).toInt + x.toInt < (I 116 (256 * r + t)).toInt then (I 116 (256 * (r + 1) + (t ^^^ own))).toInt + x.toInt else (I 116 (256 * r + t)).toInt := p1
        have hBx := hB (t ^^^ own) (by have := yd_xlt g.1; omega)
        by_cases z : (I 116 (256 * (r + 1) + (t ^^^ own))).toInt + x.toInt < (I 116 (256 * r + t)).toInt
        · rw [if_pos z] at p1
          refine ⟨by omega, fun x2 h1 h2 h3 h4 => ?_, Or.inr ⟨own, ⟨ho, hok⟩, g.1, g.2, by rw [p1, c5]⟩⟩
          by_cases e : x2 = own
          · subst e
            rw [p1, c5]
            exact Int.le_refl _
          · have := q2 x2 (by show own < x2; have : own ≤ x2 := h1; omega) h2 h3 h4
            omega
        · rw [if_neg z] at p1
          rw [p1]
          refine ⟨q1, fun x2 h1 h2 h3 h4 => ?_, q3⟩
          by_cases e : x2 = own
          · subst e
            show (I 116 (256 * r + t)).toInt ≤ (I 116 (256 * (r + 1) + (t ^^^ x2))).toInt + w x2
            rw [← c5]
            omega
          · exact q2 x2 (by show own < x2; have : own ≤ x2 := h1; omega) h2 h3 h4
      · have p2 : (I2 116 (256 * r + t)).toInt = (I 116 (256 * r + t)).toInt := p2 (fun z => g ⟨z.1, z.2.2⟩)
        rw [p2]
        refine ⟨q1, fun x2 h1 h2 h3 h4 => ?_, q3⟩
        by_cases e : x2 = own
        · subst e
          exact absurd ⟨h3, h4⟩ g
        · exact q2 x2 (by show own < x2; have : own ≤ x2 := h1; omega) h2 h3 h4
    · rw [c3 hok, if_neg (fun z => z rfl)]
      refine next I hag (fun _ _ => rfl) (fun t ht => yd_acc_P (hac t ht) (fun x2 hx hk => ?_))
      by_cases e : x2 = own
      · subst e
        exact absurd hk.2 hok
      · show own < x2
        have : own ≤ x2 := hx
        omega
end YDM
