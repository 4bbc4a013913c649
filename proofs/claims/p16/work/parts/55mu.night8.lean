/-! A NIGHT: TIRED, alike -/
theorem ytr_eq {rd ti M : Int32} (h1 : 0 ≤ rd.toInt) (h2 : 0 ≤ ti.toInt ∧ ti.toInt ≤ 99) (h3 : 0 ≤ M.toInt ∧ M.toInt ≤ 100000) : ycl (if rd ≤ 0 then ti - 5 else ti + M) 0 99 = ytr rd ti M := by
  have e0 : ((0 : Int32)).toInt = 0 := by decide
  have e5 : ((5 : Int32)).toInt = 5 := by decide
  have e99 : ((99 : Int32)).toInt = 99 := by decide
  by_cases hr : rd = 0
  · have hs := xt_sub (x := ti) (y := 5) (by rw [e5]; omega) (by rw [e5]; omega)
    rw [e5] at hs
    rw [ytr_0 hr, hr, if_pos (Int32.le_refl _)]
    unfold ycl
    rw [if_pos (show ti - 5 < 99 from xt_lt.mpr (by omega))]
  · have hr1 : ¬ rd ≤ 0 := fun z => hr (by
      have := xt_le.mp z
      rw [xt_eq]
      omega)
    have hs := xt_add (x := ti) (y := M) (by omega) (by omega)
    rw [ytr_n hr, if_neg hr1]
    unfold ycl
    by_cases h9 : ti + M < 99
    · rw [if_pos h9]
      by_cases h0 : 0 < ti + M
      · rw [if_pos h0]
      · rw [if_neg h0, xt_eq]
        have : ¬ (0 : Int) < (ti + M).toInt := fun z => h0 (xt_lt.mpr (by omega))
        omega
    · rw [if_neg h9, if_pos (by decide)]
theorem ytr_r {rd ti M : Int32} (h2 : 0 ≤ ti.toInt ∧ ti.toInt ≤ 99) (h3 : 0 ≤ M.toInt ∧ M.toInt ≤ 100000) : 0 ≤ (ytr rd ti M).toInt ∧ (ytr rd ti M).toInt ≤ 99 := by
  have e0 : ((0 : Int32)).toInt = 0 := by decide
  have e5 : ((5 : Int32)).toInt = 5 := by decide
  have e99 : ((99 : Int32)).toInt = 99 := by decide
  have hs := xt_sub (x := ti) (y := 5) (by rw [e5]; omega) (by rw [e5]; omega)
  rw [e5] at hs
  have ha := xt_add (x := ti) (y := M) (by omega) (by omega)
  unfold ytr
  by_cases hr : rd = 0
  · rw [if_neg (fun z => z hr)]
    by_cases h0 : 0 < ti - 5
    · rw [if_pos h0]
      have := xt_lt.mp h0
      omega
    · rw [if_neg h0]
      omega
  · rw [if_pos hr]
    by_cases h9 : ti + M < 99
    · rw [if_pos h9]
      have := xt_lt.mp h9
      omega
    · rw [if_neg h9]
      omega
theorem yrn_r {be : Int32} {ro ca mo wi il : Nat → Int32} : ∀ m, m ≤ 8 → ∀ i, 0 ≤ ((yn_rn be ro ca mo wi il m).2.2.1 i).toInt ∧ ((yn_rn be ro ca mo wi il m).2.2.1 i).toInt ≤ (m : Int) := by
  have e0 : ((0 : Int32)).toInt = 0 := by decide
  have e1 : ((1 : Int32)).toInt = 1 := by decide
  intro m
  induction m with
  | zero =>
    intro _ i
    show 0 ≤ ((0 : Int32)).toInt ∧ ((0 : Int32)).toInt ≤ ((0 : Nat) : Int)
    omega
  | succ m ih =>
    intro hm i
    have ih := ih (by omega)
    rw [yn_rn]
    by_cases hy : yrd be ro ca mo wi il m
    · rw [yn_r1_T hy]
      show 0 ≤ (xr_up (yn_rn be ro ca mo wi il m).2.2.1 (ro m).toInt.toNat ((yn_rn be ro ca mo wi il m).2.2.1 (ro m).toInt.toNat + 1) i).toInt ∧ (xr_up (yn_rn be ro ca mo wi il m).2.2.1 (ro m).toInt.toNat ((yn_rn be ro ca mo wi il m).2.2.1 (ro m).toInt.toNat + 1) i).toInt ≤ ((m + 1 : Nat) : Int)
      unfold xr_up
      by_cases hi : i = (ro m).toInt.toNat
      · have := ih (ro m).toInt.toNat
        have ha := xt_add (x := (yn_rn be ro ca mo wi il m).2.2.1 (ro m).toInt.toNat) (y := 1) (by rw [e1]; omega) (by rw [e1]; omega)
        rw [if_pos hi]
        omega
      · rw [if_neg hi]
        have := ih i
        omega
    · rw [yn_r1_F hy]
      have := ih i
      show 0 ≤ ((yn_rn be ro ca mo wi il m).2.2.1 i).toInt ∧ ((yn_rn be ro ca mo wi il m).2.2.1 i).toInt ≤ ((m + 1 : Nat) : Int)
      omega
theorem yrm_r {be : Int32} {ro ca mo wi il : Nat → Int32} {Hd : Nat → Nat → Int32} (hH : ∀ r h, r < 8 → h < 8 → 0 ≤ (Hd r h).toInt ∧ (Hd r h).toInt ≤ 999) (hro : ∀ h, h < 8 → (ro h).toInt ≤ 7) : ∀ m, m ≤ 8 → ∀ i, 0 ≤ (yr_m be ro ca mo wi il Hd m i).toInt ∧ (yr_m be ro ca mo wi il Hd m i).toInt ≤ 999 * (m : Int) := by
  have e0 : ((0 : Int32)).toInt = 0 := by decide
  intro m
  induction m with
  | zero =>
    intro _ i
    show 0 ≤ ((0 : Int32)).toInt ∧ ((0 : Int32)).toInt ≤ 999 * ((0 : Nat) : Int)
    omega
  | succ m ih =>
    intro hm i
    have ih := ih (by omega)
    by_cases hy : yrd be ro ca mo wi il m
    · rw [yr_m_T hy]
      unfold xr_up
      by_cases hi : i = (ro m).toInt.toNat
      · have h1 := ih (ro m).toInt.toNat
        have h7 := hro m (by omega)
        have h2 := hH (ro m).toInt.toNat m (by omega) (by omega)
        have ha := xt_add (x := yr_m be ro ca mo wi il Hd m (ro m).toInt.toNat) (y := Hd (ro m).toInt.toNat m) (by omega) (by omega)
        rw [if_pos hi]
        omega
      · rw [if_neg hi]
        have := ih i
        omega
    · rw [yr_m_F hy]
      have := ih i
      omega
