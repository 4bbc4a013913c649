/-! meets(), purely -/
def yrm (w x p : Int32) (s : Nat) : Int32 := (w * Int32.ofNat s + x) - (w * Int32.ofNat s + x) / p * p
def yMc (M : Nat → Bool) : Nat → Int32 → Nat → Int32
  | 0, e, n => if n = 0 then -2 else e
  | s + 1, e, n => if M (s + 1) = true then yMc M s (Int32.ofNat (s + 1)) (n + 1) else yMc M s e n
def yMr (M : Nat → Bool) : Nat → Int32 → Nat → Int32
  | 0, f, n => if n = 0 then -2 else f
  | k + 1, f, n => if M (999 - k) = true then yMr M k (if n = 0 then Int32.ofNat (999 - k) else f) (n + 1) else yMr M k f n
theorem yMc_no {M : Nat → Bool} : ∀ (s : Nat) (e : Int32) (n : Nat), (∀ t, 1 ≤ t → t ≤ s → M t = false) → yMc M s e n = if n = 0 then -2 else e
  | 0, e, n, h => rfl
  | s + 1, e, n, h => by
    rw [yMc, if_neg (by rw [h (s + 1) (by omega) (by omega)]; decide)]
    exact yMc_no s e n (fun t h1 h2 => h t h1 (by omega))
theorem yMc_at {M : Nat → Bool} {t : Nat} (h1 : 1 ≤ t) (ht : M t = true) (hm : ∀ u, 1 ≤ u → u < t → M u = false) : ∀ (s : Nat) (e : Int32) (n : Nat), t ≤ s → yMc M s e n = Int32.ofNat t
  | 0, e, n, h => by omega
  | s + 1, e, n, h => by
    by_cases q : t = s + 1
    · subst q
      rw [yMc, if_pos ht, yMc_no s _ _ (fun u a b => hm u a (by omega)), if_neg (by omega)]
    · rw [yMc]
      split
      · exact yMc_at h1 ht hm s _ _ (by omega)
      · exact yMc_at h1 ht hm s _ _ (by omega)
theorem yMr_no {M : Nat → Bool} : ∀ (k : Nat) (f : Int32) (n : Nat), (n = 0 → ∀ t, 1000 - k ≤ t → t ≤ 999 → M t = false) → k ≤ 999 → yMr M k f n = if n = 0 then -2 else f
  | 0, f, n, h, hk => rfl
  | k + 1, f, n, h, hk => by
    by_cases hn : n = 0
    · rw [yMr, if_neg (by rw [h hn (999 - k) (by omega) (by omega)]; decide)]
      exact yMr_no k f n (fun h9 t h1 h2 => h h9 t (by omega) h2) (by omega)
    · have g : yMr M (k + 1) f n = if M (999 - k) = true then yMr M k (if n = 0 then Int32.ofNat (999 - k) else f) (n + 1) else yMr M k f n := rfl
      rw [g]
      by_cases q : M (999 - k) = true
      · rw [if_pos q, yMr_no k _ _ (fun h9 => by omega) (by omega), if_neg (by omega), if_neg hn, if_neg hn]
      · rw [if_neg q]
        exact yMr_no k f n (fun h9 => absurd h9 hn) (by omega)
theorem yMr_at {M : Nat → Bool} {t : Nat} (h1 : t ≤ 999) (ht : M t = true) (hm : ∀ u, 1 ≤ u → u < t → M u = false) : ∀ (k : Nat) (f : Int32), 1000 - k ≤ t → k ≤ 999 → yMr M k f 0 = Int32.ofNat t
  | 0, f, h, hk => by omega
  | k + 1, f, h, hk => by
    by_cases q : t = 999 - k
    · subst q
      rw [yMr, if_pos ht, if_pos rfl, yMr_no k _ _ (fun h9 => by omega) (by omega), if_neg (by omega)]
    · rw [yMr, if_neg (by rw [hm (999 - k) (by omega) (by omega)]; decide)]
      exact yMr_at h1 ht hm k f (by omega) (by omega)
theorem ymin {M : Nat → Bool} : ∀ (n : Nat), (∃ t, 1 ≤ t ∧ t ≤ n ∧ M t = true) → ∃ t, 1 ≤ t ∧ t ≤ n ∧ M t = true ∧ ∀ u, 1 ≤ u → u < t → M u = false
  | 0, ⟨t, h1, h2, _⟩ => by omega
  | n + 1, ⟨t, h1, h2, h3⟩ => by
    by_cases q : ∃ t, 1 ≤ t ∧ t ≤ n ∧ M t = true
    · obtain ⟨t, a, b, c, e⟩ := ymin n q
      exact ⟨t, a, by omega, c, e⟩
    · refine ⟨t, h1, h2, h3, fun u a b => ?_⟩
      cases hu : M u with
      | false => rfl
      | true => exact absurd ⟨u, a, by omega, hu⟩ q
theorem yM_eq (M : Nat → Bool) : yMc M 999 0 0 = yMr M 999 (-2) 0 := by
  by_cases q : ∃ t, 1 ≤ t ∧ t ≤ 999 ∧ M t = true
  · obtain ⟨t, a, b, c, e⟩ := ymin 999 q
    rw [yMc_at a c e 999 0 0 b, yMr_at b c e 999 (-2) (by omega) (by omega)]
  · have h : ∀ t, 1 ≤ t → t ≤ 999 → M t = false := fun t a b => by
      cases ht : M t with
      | false => rfl
      | true => exact absurd ⟨t, a, b, ht⟩ q
    rw [yMc_no 999 0 0 h, yMr_no 999 (-2) 0 (fun _ t a b => h t (by omega) b) (by omega), if_pos rfl, if_pos rfl]
section YE
variable {d c : Nat} {I : Nat → Nat → Int32} {R : Nat → Nat → Nat} {x y p : Int32}
theorem yn0 {n : Nat} (h : n ≤ 1000) : Int32.ofNat n = 0 ↔ n = 0 := by
  rw [xt_eq, xt_nat (by omega)]
  simp
theorem yc_meets {M : Nat → Bool} (hx : 0 ≤ x.toInt ∧ x.toInt < ((8 : Nat) : Int)) (hy : 0 ≤ y.toInt ∧ y.toInt < ((8 : Nat) : Int)) (hp : ¬ p = 0) (hM : ∀ s, M s = decide (yrm (I 6 x.toInt.toNat) x p s = yrm (I 6 y.toInt.toNat) y p s)) : ∀ (s n : Nat) (e : Int32) (J : Nat → Nat → Int64), s + n ≤ 999 → ∃ I1 J1, qX7_meets_h36 (d + 2) x y p e (Int32.ofNat n) (Int32.ofNat s) (I, J, R) = some (some (.int (yMc M s e n)), I1, J1, R) ∧ ∀ k j, ¬ (k = 78 ∧ j = 1) → I1 k j = I k j
  | 0, n, e, J, hs => by
    have h1 : Int32.ofNat 0 < 1 := by decide
    by_cases hn : n = 0
    · refine ⟨I, J, ?_, fun k j _ => rfl⟩
      rw [qX7_meets_h36_eq, if_pos h1, if_neg (fun q => q ((yn0 (by omega)).mpr hn)), yMc, if_pos hn]
    · have h9 : ∃ J1, qX7_meets_h36 (d + 2) x y p e (Int32.ofNat n) (Int32.ofNat 0) (I, J, R) = some (some (.int (yMc M 0 e n)), xq_upd (xq_upd (xq_upd I 78 1 0) 78 1 1) 78 1 2, J1, R) := ⟨_, by rw [qX7_meets_h36_eq, if_pos h1, if_pos (fun q => hn ((yn0 (by omega)).mp q)), if_pos hx, if_neg hp, yc_tell2, xb_V1, yMc, if_neg hn]⟩
      obtain ⟨J1, h9⟩ := h9
      exact ⟨_, J1, h9, fun k j h => by rw [xq_upd_n h, xq_upd_n h, xq_upd_n h]⟩
  | s + 1, n, e, J, hs => by
    have h1 : ¬ Int32.ofNat (s + 1) < (1 : Int32) := by
      show ¬ Int32.ofNat (s + 1) < Int32.ofNat 1
      rw [xr_lt (by omega) (by omega)]
      omega
    have a1 : Int32.ofNat n + (1 : Int32) = Int32.ofNat (n + 1) := (Int32.ofNat_add n 1).symm
    have a2 : Int32.ofNat (s + 1) + (-1 : Int32) = Int32.ofNat s := by
      rw [Int32.ofNat_add]
      grind
    have key : qX7_meets_h36 (d + 2) x y p e (Int32.ofNat n) (Int32.ofNat (s + 1)) (I, J, R) = if M (s + 1) = true then qX7_meets_h36 (d + 2) x y p (Int32.ofNat (s + 1)) (Int32.ofNat (n + 1)) (Int32.ofNat s) (I, J, R) else qX7_meets_h36 (d + 2) x y p e (Int32.ofNat n) (Int32.ofNat s) (I, J, R) := by
      rw [qX7_meets_h36_eq, if_neg h1, if_pos hx, if_neg hp, if_pos hy, if_neg hp, qX7_meets_h84_eq, qX7_meets_h84_eq, a1, a2, hM]
      show (if ¬ yrm (I 6 x.toInt.toNat) x p (s + 1) = yrm (I 6 y.toInt.toNat) y p (s + 1) then _ else _) = _
      by_cases q : yrm (I 6 x.toInt.toNat) x p (s + 1) = yrm (I 6 y.toInt.toNat) y p (s + 1)
      · rw [if_neg (fun z => z q), if_pos (decide_eq_true q)]
      · rw [if_pos q, if_neg (by rw [decide_eq_false q]; decide)]
    rw [key, yMc]
    by_cases q : M (s + 1) = true
    · rw [if_pos q, if_pos q]
      exact yc_meets hx hy hp hM s (n + 1) _ J (by omega)
    · rw [if_neg q, if_neg q]
      exact yc_meets hx hy hp hM s n _ J (by omega)
theorem yr_meets {M : Nat → Bool} (hx : 0 ≤ x.toInt ∧ x.toInt < ((8 : Nat) : Int)) (hy : 0 ≤ y.toInt ∧ y.toInt < ((8 : Nat) : Int)) (hp : ¬ p = 0) (hM : ∀ s, M s = decide (yrm (I 97 x.toInt.toNat) x p s = yrm (I 97 y.toInt.toNat) y p s)) : ∀ (k n : Nat) (f : Int32) (J : Nat → Nat → Int64), k ≤ 999 → n + k ≤ 999 → ∃ I1 J1, qX8_meets_h36 (d + 1) x y p f (Int32.ofNat n) (Int32.ofNat (1000 - k)) (I, J, R) = some (some (.int (yMr M k f n)), I1, J1, R) ∧ ∀ k j, ¬ (k = 94 ∧ j = 10) → I1 k j = I k j
  | 0, n, f, J, hk, hs => by
    have h1 : (999 : Int32) < Int32.ofNat (1000 - 0) := by decide
    by_cases hn : n = 0
    · refine ⟨I, J, ?_, fun k j _ => rfl⟩
      rw [qX8_meets_h36_eq, if_pos h1, if_neg (fun q => q ((yn0 (by omega)).mpr hn)), yMr, if_pos hn]
    · have h9 : ∃ J1, qX8_meets_h36 (d + 1) x y p f (Int32.ofNat n) (Int32.ofNat (1000 - 0)) (I, J, R) = some (some (.int (yMr M 0 f n)), xq_upd (xq_upd (xq_upd I 94 10 0) 94 10 (Int32.ofNat (0 + 1))) 94 10 (Int32.ofNat (1 + 1)), J1, R) := ⟨_, by rw [qX8_meets_h36_eq, if_pos h1, if_pos (fun q => hn ((yn0 (by omega)).mp q)), if_pos hx, if_neg hp, yr_tell (I := xq_upd I 94 10 0) (n := 0) xu_t (by decide), xb_V1, yr_tell (I := xq_upd (xq_upd I 94 10 0) 94 10 (Int32.ofNat (0 + 1))) (n := 1) xu_t (by decide), xb_V1, yMr, if_neg hn]⟩
      obtain ⟨J1, h9⟩ := h9
      exact ⟨_, J1, h9, fun k j h => by rw [xq_upd_n h, xq_upd_n h, xq_upd_n h]⟩
  | k + 1, n, f, J, hk, hs => by
    have h1 : ¬ (999 : Int32) < Int32.ofNat (1000 - (k + 1)) := by
      rw [show (999 : Int32) = Int32.ofNat 999 from rfl, xr_lt (by omega) (by omega)]
      omega
    have e1 : 1000 - (k + 1) = 999 - k := by omega
    have a1 : Int32.ofNat n + (1 : Int32) = Int32.ofNat (n + 1) := (Int32.ofNat_add n 1).symm
    have a2 : Int32.ofNat (999 - k) + (1 : Int32) = Int32.ofNat (1000 - k) := by
      rw [show 1000 - k = (999 - k) + 1 by omega, Int32.ofNat_add]
      rfl
    rw [e1] at h1 ⊢
    have key : qX8_meets_h36 (d + 1) x y p f (Int32.ofNat n) (Int32.ofNat (999 - k)) (I, J, R) = if M (999 - k) = true then qX8_meets_h36 (d + 1) x y p (if n = 0 then Int32.ofNat (999 - k) else f) (Int32.ofNat (n + 1)) (Int32.ofNat (1000 - k)) (I, J, R) else qX8_meets_h36 (d + 1) x y p f (Int32.ofNat n) (Int32.ofNat (1000 - k)) (I, J, R) := by
      rw [qX8_meets_h36_eq, if_neg h1, if_pos hx, if_neg hp, if_pos hy, if_neg hp, qX8_meets_h88_eq, qX8_meets_h88_eq, a1, a2, hM]
      show (if yrm (I 97 x.toInt.toNat) x p (999 - k) = yrm (I 97 y.toInt.toNat) y p (999 - k) then (if ¬ Int32.ofNat n = 0 then _ else _) else _) = _
      by_cases q : yrm (I 97 x.toInt.toNat) x p (999 - k) = yrm (I 97 y.toInt.toNat) y p (999 - k)
      · rw [if_pos q, if_pos (decide_eq_true q)]
        by_cases hn : n = 0
        · rw [if_neg (fun z => z ((yn0 (by omega)).mpr hn)), if_pos hn]
        · rw [if_pos (fun z => hn ((yn0 (by omega)).mp z)), if_neg hn]
      · rw [if_neg q, if_neg (by rw [decide_eq_false q]; decide)]
    rw [key, yMr]
    by_cases q : M (999 - k) = true
    · rw [if_pos q, if_pos q]
      exact yr_meets hx hy hp hM k (n + 1) _ J (by omega) (by omega)
    · rw [if_neg q, if_neg q]
      exact yr_meets hx hy hp hM k n _ J (by omega) (by omega)
theorem ymeets (hP : yP I) (hB : yB I) : yRd yB 4 144 5 253 [x, y, p] True yP I := by
  refine yRd_mk fun J R hR => ?_
  obtain ⟨c, hc, hc8⟩ := ynat hB.2.1.1 hB.2.1.2
  have hc8 : c ≤ 8 := by omega
  have hm : I 94 3 = Int32.ofNat c := hP.2.2.1.trans hc
  have ec : (I 3 6).toInt = (c : Int) := by rw [hc, xt_nat (by omega)]
  have e2 : (2 : Int32).toInt = 2 := by decide
  have e40 : (40 : Int32).toInt = 40 := by decide
  by_cases hA : ((0 ≤ x.toInt ∧ x.toInt < (c : Int)) ∧ (0 ≤ y.toInt ∧ y.toInt < (c : Int)) ∧ ¬ x = y) ∧ 2 ≤ p.toInt ∧ p.toInt ≤ 40
  · have hx : 0 ≤ x.toInt ∧ x.toInt < ((8 : Nat) : Int) := by omega
    have hy : 0 ≤ y.toInt ∧ y.toInt < ((8 : Nat) : Int) := by omega
    have hp : ¬ p = 0 := by
      intro q
      rw [q] at hA
      exact absurd hA.2.1 (by decide)
    obtain ⟨I1, J1, h1, f1⟩ := yc_meets (d := 1) (I := I) (R := R) (M := fun s => decide (yrm (I 6 x.toInt.toNat) x p s = yrm (I 6 y.toInt.toNat) y p s)) hx hy hp (fun s => rfl) 999 0 0 J (by omega)
    refine ⟨yMc (fun s => decide (yrm (I 6 x.toInt.toNat) x p s = yrm (I 6 y.toInt.toNat) y p s)) 999 0 0, I1, ⟨J1, R, ?_⟩, fun I1' he hB1 J' R' hR' => ?_⟩
    · show xq_D xqP 4 144 [.ref 0, .int x, .int y, .int p] (I, J, R) = _
      rw [qX7_meets_eq, yc_two hc hc8, xb_I1, if_pos hA.1, if_neg (by decide), if_neg (by rw [xt_lt, e2]; omega), if_pos (by rw [xt_le, e40]; omega)]
      exact h1
    · have hS : ∀ k j, yS k j → I1' k j = I k j := fun k j h => by rw [he k j (yS_xv h), f1 k j (by unfold yS at h; omega)]
      have hm1 : xq_upd I1' 94 11 0 94 3 = Int32.ofNat c := by rw [xu_j (by decide), hS 94 3 (by unfold yS; omega), hm]
      have w1 : xq_upd I1' 94 11 0 97 x.toInt.toNat = I 6 x.toInt.toNat := by rw [xu_k (by decide), hS 97 _ (by unfold yS; omega), (hP.2.2.2.1 x.toInt.toNat (by omega) (by omega)).2.2]
      have w2 : xq_upd I1' 94 11 0 97 y.toInt.toNat = I 6 y.toInt.toNat := by rw [xu_k (by decide), hS 97 _ (by unfold yS; omega), (hP.2.2.2.1 y.toInt.toNat (by omega) (by omega)).2.2]
      obtain ⟨I2, J2, h2, f2⟩ := yr_meets (d := 3) (I := xq_upd I1' 94 11 0) (R := R') (M := fun s => decide (yrm (I 6 x.toInt.toNat) x p s = yrm (I 6 y.toInt.toNat) y p s)) hx hy hp (fun s => by rw [w1, w2]) 999 0 (-2) J' (by omega) (by omega)
      refine ⟨yMr (fun s => decide (yrm (I 6 x.toInt.toNat) x p s = yrm (I 6 y.toInt.toNat) y p s)) 999 (-2) 0, I2, ⟨J2, R', ?_⟩, fun _ => yM_eq _, yP_cg (fun k j h => ?_) hP⟩
      · show xq_D xqP 5 253 [.ref 94, .int x, .int y, .int p] (I1', J', R') = _
        rw [qX8_meets_eq, yr_two hm1 hc8, xb_I1, if_pos hA.1, if_neg (by decide), xe_in, xb_I1, e2, e40, if_pos hA.2, if_pos (by decide)]
        exact h2
      · rw [f2 k j (by unfold yS at h; omega), xq_upd_n (by unfold yS at h; omega), hS k j h]
  · refine ⟨-1, I, ⟨J, R, ?_⟩, fun I1' he hB1 J' R' hR' => ?_⟩
    · show xq_D xqP 4 144 [.ref 0, .int x, .int y, .int p] (I, J, R) = _
      rw [qX7_meets_eq, yc_two hc hc8, xb_I1]
      simp only [xt_lt, xt_le, e2, e40]
      by_cases g1 : (0 ≤ x.toInt ∧ x.toInt < (c : Int)) ∧ (0 ≤ y.toInt ∧ y.toInt < (c : Int)) ∧ ¬ x = y
      · rw [if_pos g1, if_neg (by decide)]
        by_cases g2 : p.toInt < 2
        · rw [if_pos g2]
        · rw [if_neg g2, if_neg (fun q => hA ⟨g1, by omega, q⟩)]
      · rw [if_neg g1, if_pos rfl]
    · have hS : ∀ k j, yS k j → I1' k j = I k j := fun k j h => he k j (yS_xv h)
      have hm1 : xq_upd I1' 94 11 0 94 3 = Int32.ofNat c := by rw [xu_j (by decide), hS 94 3 (by unfold yS; omega), hm]
      refine ⟨-1, xq_upd I1' 94 11 0, ⟨J', R', ?_⟩, fun _ => rfl, yP_cg (fun k j h => ?_) hP⟩
      · show xq_D xqP 5 253 [.ref 94, .int x, .int y, .int p] (I1', J', R') = _
        rw [qX8_meets_eq, yr_two hm1 hc8, xb_I1]
        by_cases g1 : (0 ≤ x.toInt ∧ x.toInt < (c : Int)) ∧ (0 ≤ y.toInt ∧ y.toInt < (c : Int)) ∧ ¬ x = y
        · rw [if_pos g1, if_neg (by decide), xe_in, xb_I1, e2, e40, if_neg (fun q => hA ⟨g1, q⟩), if_neg (by decide)]
        · rw [if_neg g1, if_pos rfl]
      · rw [xq_upd_n (by unfold yS at h; omega), hS k j h]
end YE
