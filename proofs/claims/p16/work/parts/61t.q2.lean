/-! STATES of the reference: laid, remembered, brought back -/
section YQB
variable {d sz : Nat} {J : Nat → Nat → Int64} {R : Nat → Nat → Nat}
theorem yq_l95_105l {off : Nat} (ho : off + 27 ≤ 324) : ∀ (m i : Nat) (I : Nat → Nat → Int32), i + m = 27 → ∃ I', qX8_lay_95_105_h2 d (Int32.ofNat off) (Int32.ofNat i) (I, J, R) = some (none, I', J, R) ∧ (∀ k j, ¬ k = 105 → I' k j = I k j) ∧ (∀ j, i ≤ j → j < 27 → I' 105 (off + j) = I 95 j) ∧ ∀ j, ¬ (off + i ≤ j ∧ j < off + 27) → I' 105 j = I 105 j
  | 0, i, I, hi => by
    rw [qX8_lay_95_105_h2_eq, if_pos (show (27 : Int32) ≤ Int32.ofNat i from (xr_le (a := 27) (by omega) (by omega)).mpr (by omega))]
    exact ⟨I, rfl, fun _ _ _ => rfl, fun j h1 h2 => by omega, fun _ _ => rfl⟩
  | m + 1, i, I, hi => by
    have b1 := xt_nat (n := i) (by omega)
    have b2 : (Int32.ofNat i).toInt.toNat = i := by omega
    have a1 : Int32.ofNat i + (1 : Int32) = Int32.ofNat (i + 1) := (Int32.ofNat_add i 1).symm
    have c0 : Int32.ofNat off + Int32.ofNat i = Int32.ofNat (off + i) := (Int32.ofNat_add off i).symm
    have c1 := xt_nat (n := off + i) (by omega)
    have c2 : (Int32.ofNat (off + i)).toInt.toNat = off + i := by omega
    rw [qX8_lay_95_105_h2_eq, if_neg (fun z => by have := (xr_le (a := 27) (by omega) (by omega)).mp z; omega), b2, b1, if_pos (by omega), c0, c2, c1, if_pos (by omega), a1]
    obtain ⟨I', x1, x2, x3, x4⟩ := yq_l95_105l ho m (i + 1) (xq_upd I 105 (off + i) (I 95 i)) (by omega)
    refine ⟨I', x1, fun k j hk => (x2 k j hk).trans (xu_k hk), fun j h1 h2 => ?_, fun j hj => ?_⟩
    · by_cases e : j = i
      · subst e
        rw [x4 _ (by omega), xu_t]
      · rw [x3 j (by omega) h2, xu_k (by decide)]
    · rw [x4 j (by omega), xu_j (by omega)]
theorem yq_l95_105 {off : Nat} {I : Nat → Nat → Int32} (ho : off + 27 ≤ 324) : ∃ I', xq_D xqP (d + 1) 246 [.ref 95, .ref 105, .int (Int32.ofNat off)] (I, J, R) = some (none, I', J, R) ∧ (∀ k j, ¬ k = 105 → I' k j = I k j) ∧ (∀ j, j < 27 → I' 105 (off + j) = I 95 j) ∧ ∀ j, ¬ (off ≤ j ∧ j < off + 27) → I' 105 j = I 105 j := by
  rw [qX8_lay_95_105_eq]
  obtain ⟨I', x1, x2, x3, x4⟩ := yq_l95_105l (d := d) (J := J) (R := R) ho 27 0 I (by omega)
  exact ⟨I', x1, x2, fun j hj => x3 j (Nat.zero_le _) hj, fun j hj => x4 j (by omega)⟩
theorem yq_l106_105l {off : Nat} (ho : off + 27 ≤ 324) : ∀ (m i : Nat) (I : Nat → Nat → Int32), i + m = 27 → ∃ I', qX8_lay_106_105_h2 d (Int32.ofNat off) (Int32.ofNat i) (I, J, R) = some (none, I', J, R) ∧ (∀ k j, ¬ k = 105 → I' k j = I k j) ∧ (∀ j, i ≤ j → j < 27 → I' 105 (off + j) = I 106 j) ∧ ∀ j, ¬ (off + i ≤ j ∧ j < off + 27) → I' 105 j = I 105 j
  | 0, i, I, hi => by
    rw [qX8_lay_106_105_h2_eq, if_pos (show (27 : Int32) ≤ Int32.ofNat i from (xr_le (a := 27) (by omega) (by omega)).mpr (by omega))]
    exact ⟨I, rfl, fun _ _ _ => rfl, fun j h1 h2 => by omega, fun _ _ => rfl⟩
  | m + 1, i, I, hi => by
    have b1 := xt_nat (n := i) (by omega)
    have b2 : (Int32.ofNat i).toInt.toNat = i := by omega
    have a1 : Int32.ofNat i + (1 : Int32) = Int32.ofNat (i + 1) := (Int32.ofNat_add i 1).symm
    have c0 : Int32.ofNat off + Int32.ofNat i = Int32.ofNat (off + i) := (Int32.ofNat_add off i).symm
    have c1 := xt_nat (n := off + i) (by omega)
    have c2 : (Int32.ofNat (off + i)).toInt.toNat = off + i := by omega
    rw [qX8_lay_106_105_h2_eq, if_neg (fun z => by have := (xr_le (a := 27) (by omega) (by omega)).mp z; omega), b2, b1, if_pos (by omega), c0, c2, c1, if_pos (by omega), a1]
    obtain ⟨I', x1, x2, x3, x4⟩ := yq_l106_105l ho m (i + 1) (xq_upd I 105 (off + i) (I 106 i)) (by omega)
    refine ⟨I', x1, fun k j hk => (x2 k j hk).trans (xu_k hk), fun j h1 h2 => ?_, fun j hj => ?_⟩
    · by_cases e : j = i
      · subst e
        rw [x4 _ (by omega), xu_t]
      · rw [x3 j (by omega) h2, xu_k (by decide)]
    · rw [x4 j (by omega), xu_j (by omega)]
theorem yq_l106_105 {off : Nat} {I : Nat → Nat → Int32} (ho : off + 27 ≤ 324) : ∃ I', xq_D xqP (d + 1) 246 [.ref 106, .ref 105, .int (Int32.ofNat off)] (I, J, R) = some (none, I', J, R) ∧ (∀ k j, ¬ k = 105 → I' k j = I k j) ∧ (∀ j, j < 27 → I' 105 (off + j) = I 106 j) ∧ ∀ j, ¬ (off ≤ j ∧ j < off + 27) → I' 105 j = I 105 j := by
  rw [qX8_lay_106_105_eq]
  obtain ⟨I', x1, x2, x3, x4⟩ := yq_l106_105l (d := d) (J := J) (R := R) ho 27 0 I (by omega)
  exact ⟨I', x1, x2, fun j hj => x3 j (Nat.zero_le _) hj, fun j hj => x4 j (by omega)⟩
theorem yq_l95_122l {off : Nat} (ho : off + 27 ≤ 54) : ∀ (m i : Nat) (I : Nat → Nat → Int32), i + m = 27 → ∃ I', qX8_lay_95_122_h2 d (Int32.ofNat off) (Int32.ofNat i) (I, J, R) = some (none, I', J, R) ∧ (∀ k j, ¬ k = 122 → I' k j = I k j) ∧ (∀ j, i ≤ j → j < 27 → I' 122 (off + j) = I 95 j) ∧ ∀ j, ¬ (off + i ≤ j ∧ j < off + 27) → I' 122 j = I 122 j
  | 0, i, I, hi => by
    rw [qX8_lay_95_122_h2_eq, if_pos (show (27 : Int32) ≤ Int32.ofNat i from (xr_le (a := 27) (by omega) (by omega)).mpr (by omega))]
    exact ⟨I, rfl, fun _ _ _ => rfl, fun j h1 h2 => by omega, fun _ _ => rfl⟩
  | m + 1, i, I, hi => by
    have b1 := xt_nat (n := i) (by omega)
    have b2 : (Int32.ofNat i).toInt.toNat = i := by omega
    have a1 : Int32.ofNat i + (1 : Int32) = Int32.ofNat (i + 1) := (Int32.ofNat_add i 1).symm
    have c0 : Int32.ofNat off + Int32.ofNat i = Int32.ofNat (off + i) := (Int32.ofNat_add off i).symm
    have c1 := xt_nat (n := off + i) (by omega)
    have c2 : (Int32.ofNat (off + i)).toInt.toNat = off + i := by omega
    rw [qX8_lay_95_122_h2_eq, if_neg (fun z => by have := (xr_le (a := 27) (by omega) (by omega)).mp z; omega), b2, b1, if_pos (by omega), c0, c2, c1, if_pos (by omega), a1]
    obtain ⟨I', x1, x2, x3, x4⟩ := yq_l95_122l ho m (i + 1) (xq_upd I 122 (off + i) (I 95 i)) (by omega)
    refine ⟨I', x1, fun k j hk => (x2 k j hk).trans (xu_k hk), fun j h1 h2 => ?_, fun j hj => ?_⟩
    · by_cases e : j = i
      · subst e
        rw [x4 _ (by omega), xu_t]
      · rw [x3 j (by omega) h2, xu_k (by decide)]
    · rw [x4 j (by omega), xu_j (by omega)]
theorem yq_l95_122 {off : Nat} {I : Nat → Nat → Int32} (ho : off + 27 ≤ 54) : ∃ I', xq_D xqP (d + 1) 246 [.ref 95, .ref 122, .int (Int32.ofNat off)] (I, J, R) = some (none, I', J, R) ∧ (∀ k j, ¬ k = 122 → I' k j = I k j) ∧ (∀ j, j < 27 → I' 122 (off + j) = I 95 j) ∧ ∀ j, ¬ (off ≤ j ∧ j < off + 27) → I' 122 j = I 122 j := by
  rw [qX8_lay_95_122_eq]
  obtain ⟨I', x1, x2, x3, x4⟩ := yq_l95_122l (d := d) (J := J) (R := R) ho 27 0 I (by omega)
  exact ⟨I', x1, x2, fun j hj => x3 j (Nat.zero_le _) hj, fun j hj => x4 j (by omega)⟩
theorem yq_l95_106l {off : Nat} (ho : off + 27 ≤ 27) : ∀ (m i : Nat) (I : Nat → Nat → Int32), i + m = 27 → ∃ I', qX8_lay_95_106_h2 d (Int32.ofNat off) (Int32.ofNat i) (I, J, R) = some (none, I', J, R) ∧ (∀ k j, ¬ k = 106 → I' k j = I k j) ∧ (∀ j, i ≤ j → j < 27 → I' 106 (off + j) = I 95 j) ∧ ∀ j, ¬ (off + i ≤ j ∧ j < off + 27) → I' 106 j = I 106 j
  | 0, i, I, hi => by
    rw [qX8_lay_95_106_h2_eq, if_pos (show (27 : Int32) ≤ Int32.ofNat i from (xr_le (a := 27) (by omega) (by omega)).mpr (by omega))]
    exact ⟨I, rfl, fun _ _ _ => rfl, fun j h1 h2 => by omega, fun _ _ => rfl⟩
  | m + 1, i, I, hi => by
    have b1 := xt_nat (n := i) (by omega)
    have b2 : (Int32.ofNat i).toInt.toNat = i := by omega
    have a1 : Int32.ofNat i + (1 : Int32) = Int32.ofNat (i + 1) := (Int32.ofNat_add i 1).symm
    have c0 : Int32.ofNat off + Int32.ofNat i = Int32.ofNat (off + i) := (Int32.ofNat_add off i).symm
    have c1 := xt_nat (n := off + i) (by omega)
    have c2 : (Int32.ofNat (off + i)).toInt.toNat = off + i := by omega
    rw [qX8_lay_95_106_h2_eq, if_neg (fun z => by have := (xr_le (a := 27) (by omega) (by omega)).mp z; omega), b2, b1, if_pos (by omega), c0, c2, c1, if_pos (by omega), a1]
    obtain ⟨I', x1, x2, x3, x4⟩ := yq_l95_106l ho m (i + 1) (xq_upd I 106 (off + i) (I 95 i)) (by omega)
    refine ⟨I', x1, fun k j hk => (x2 k j hk).trans (xu_k hk), fun j h1 h2 => ?_, fun j hj => ?_⟩
    · by_cases e : j = i
      · subst e
        rw [x4 _ (by omega), xu_t]
      · rw [x3 j (by omega) h2, xu_k (by decide)]
    · rw [x4 j (by omega), xu_j (by omega)]
theorem yq_l95_106 {off : Nat} {I : Nat → Nat → Int32} (ho : off + 27 ≤ 27) : ∃ I', xq_D xqP (d + 1) 246 [.ref 95, .ref 106, .int (Int32.ofNat off)] (I, J, R) = some (none, I', J, R) ∧ (∀ k j, ¬ k = 106 → I' k j = I k j) ∧ (∀ j, j < 27 → I' 106 (off + j) = I 95 j) ∧ ∀ j, ¬ (off ≤ j ∧ j < off + 27) → I' 106 j = I 106 j := by
  rw [qX8_lay_95_106_eq]
  obtain ⟨I', x1, x2, x3, x4⟩ := yq_l95_106l (d := d) (J := J) (R := R) ho 27 0 I (by omega)
  exact ⟨I', x1, x2, fun j hj => x3 j (Nat.zero_le _) hj, fun j hj => x4 j (by omega)⟩
theorem yq_l95_107l {off : Nat} (ho : off + 27 ≤ 27) : ∀ (m i : Nat) (I : Nat → Nat → Int32), i + m = 27 → ∃ I', qX8_lay_95_107_h2 d (Int32.ofNat off) (Int32.ofNat i) (I, J, R) = some (none, I', J, R) ∧ (∀ k j, ¬ k = 107 → I' k j = I k j) ∧ (∀ j, i ≤ j → j < 27 → I' 107 (off + j) = I 95 j) ∧ ∀ j, ¬ (off + i ≤ j ∧ j < off + 27) → I' 107 j = I 107 j
  | 0, i, I, hi => by
    rw [qX8_lay_95_107_h2_eq, if_pos (show (27 : Int32) ≤ Int32.ofNat i from (xr_le (a := 27) (by omega) (by omega)).mpr (by omega))]
    exact ⟨I, rfl, fun _ _ _ => rfl, fun j h1 h2 => by omega, fun _ _ => rfl⟩
  | m + 1, i, I, hi => by
    have b1 := xt_nat (n := i) (by omega)
    have b2 : (Int32.ofNat i).toInt.toNat = i := by omega
    have a1 : Int32.ofNat i + (1 : Int32) = Int32.ofNat (i + 1) := (Int32.ofNat_add i 1).symm
    have c0 : Int32.ofNat off + Int32.ofNat i = Int32.ofNat (off + i) := (Int32.ofNat_add off i).symm
    have c1 := xt_nat (n := off + i) (by omega)
    have c2 : (Int32.ofNat (off + i)).toInt.toNat = off + i := by omega
    rw [qX8_lay_95_107_h2_eq, if_neg (fun z => by have := (xr_le (a := 27) (by omega) (by omega)).mp z; omega), b2, b1, if_pos (by omega), c0, c2, c1, if_pos (by omega), a1]
    obtain ⟨I', x1, x2, x3, x4⟩ := yq_l95_107l ho m (i + 1) (xq_upd I 107 (off + i) (I 95 i)) (by omega)
    refine ⟨I', x1, fun k j hk => (x2 k j hk).trans (xu_k hk), fun j h1 h2 => ?_, fun j hj => ?_⟩
    · by_cases e : j = i
      · subst e
        rw [x4 _ (by omega), xu_t]
      · rw [x3 j (by omega) h2, xu_k (by decide)]
    · rw [x4 j (by omega), xu_j (by omega)]
theorem yq_l95_107 {off : Nat} {I : Nat → Nat → Int32} (ho : off + 27 ≤ 27) : ∃ I', xq_D xqP (d + 1) 246 [.ref 95, .ref 107, .int (Int32.ofNat off)] (I, J, R) = some (none, I', J, R) ∧ (∀ k j, ¬ k = 107 → I' k j = I k j) ∧ (∀ j, j < 27 → I' 107 (off + j) = I 95 j) ∧ ∀ j, ¬ (off ≤ j ∧ j < off + 27) → I' 107 j = I 107 j := by
  rw [qX8_lay_95_107_eq]
  obtain ⟨I', x1, x2, x3, x4⟩ := yq_l95_107l (d := d) (J := J) (R := R) ho 27 0 I (by omega)
  exact ⟨I', x1, x2, fun j hj => x3 j (Nat.zero_le _) hj, fun j hj => x4 j (by omega)⟩
theorem yq_27 : ∀ n : Nat, n < 13 → (27 : Int32) * Int32.ofNat n = Int32.ofNat (27 * n) := by decide +kernel
/-- the oldest is forgotten -/
theorem yq_sh95 : ∀ (m i : Nat) (I : Nat → Nat → Int32), i + m = 297 → ∃ I', qX8_remember_95_h11 d (Int32.ofNat i) (I, J, R) = qX8_remember_95_h11 d (Int32.ofNat 297) (I', J, R) ∧ (∀ k j, ¬ k = 105 → I' k j = I k j) ∧ (∀ j, i ≤ j → j < 297 → I' 105 j = I 105 (j + 27)) ∧ ∀ j, j < i ∨ 297 ≤ j → I' 105 j = I 105 j
  | 0, i, I, hi => by
    obtain rfl : i = 297 := by omega
    exact ⟨I, rfl, fun _ _ _ => rfl, fun j h1 h2 => by omega, fun _ _ => rfl⟩
  | m + 1, i, I, hi => by
    have b1 := xt_nat (n := i) (by omega)
    have b2 : (Int32.ofNat i).toInt.toNat = i := by omega
    have a1 : Int32.ofNat i + (1 : Int32) = Int32.ofNat (i + 1) := (Int32.ofNat_add i 1).symm
    have c0 : Int32.ofNat i + (27 : Int32) = Int32.ofNat (i + 27) := (Int32.ofNat_add i 27).symm
    have c1 := xt_nat (n := i + 27) (by omega)
    have c2 : (Int32.ofNat (i + 27)).toInt.toNat = i + 27 := by omega
    rw [qX8_remember_95_h11_eq, if_neg (fun z => by have := (xr_le (a := 297) (by omega) (by omega)).mp z; omega), c0, c2, c1, if_pos (by omega), b2, b1, if_pos (by omega), a1]
    obtain ⟨I', x1, x2, x3, x4⟩ := yq_sh95 m (i + 1) (xq_upd I 105 i (I 105 (i + 27))) (by omega)
    refine ⟨I', x1, fun k j hk => (x2 k j hk).trans (xu_k hk), fun j h1 h2 => ?_, fun j hj => ?_⟩
    · by_cases e : j = i
      · subst e
        rw [x4 j (by omega), xu_t]
      · rw [x3 j (by omega) h2, xu_j (by omega)]
    · rw [x4 j (by omega), xu_j (by omega)]
/-- a state is remembered -/
theorem yq_rem95 {I : Nat → Nat → Int32} (hs : I 94 24 = Int32.ofNat sz) (hsz : sz ≤ 12) : ∃ I', xq_D xqP (d + 2) 269 [.ref 94, .ref 95] (I, J, R) = some (none, I', J, R) ∧ I' 94 24 = Int32.ofNat (if sz = 12 then 12 else sz + 1) ∧ (∀ k j, ¬ k = 105 → ¬ (k = 94 ∧ j = 24) → I' k j = I k j) ∧ ∀ j, j < (if sz = 12 then 12 else sz + 1) → ∀ i, i < 27 → I' 105 (27 * j + i) = if j = (if sz = 12 then 12 else sz + 1) - 1 then I 95 i else I 105 (27 * (if sz = 12 then j + 1 else j) + i) := by
  have hs' : (I, J, R).1 94 24 = Int32.ofNat sz := hs
  rw [qX8_remember_95_eq, hs']
  by_cases h : sz = 12
  · subst h
    rw [if_neg (fun z => z rfl)]
    obtain ⟨I1, x1, x2, x3, x4⟩ := yq_sh95 (d := d + 1) (J := J) (R := R) 297 0 I (by omega)
    have x1 : qX8_remember_95_h11 (d + 1) 0 (I, J, R) = _ := x1
    have hs1 : (I1, J, R).1 94 24 = Int32.ofNat 12 := (x2 94 24 (by decide)).trans hs
    obtain ⟨I2, y1, y2, y3, y4⟩ := yq_l95_105 (d := d) (J := J) (R := R) (off := 297) (I := xq_upd I1 94 24 (Int32.ofNat 11)) (by omega)
    have e1 : (Int32.ofNat 12 - (1 : Int32)) = Int32.ofNat 11 := by decide
    have e2 : (27 : Int32) * Int32.ofNat 11 = Int32.ofNat 297 := by decide
    have g24 : (I2, J, R).1 94 24 = Int32.ofNat 11 := by
      show I2 94 24 = _
      rw [y2 94 24 (by decide), xu_t]
    rw [x1, qX8_remember_95_h11_eq, if_pos (by decide), hs1, e1, e2, y1, xb_V1, g24]
    refine ⟨xq_upd I2 94 24 (Int32.ofNat 11 + (1 : Int32)), rfl, ?_, fun k j h1 h2 => ?_, fun j hj i hi => ?_⟩
    · rw [xu_t]
      rfl
    · rw [xq_upd_n h2, y2 k j h1, xq_upd_n h2, x2 k j h1]
    · rw [if_pos rfl] at hj
      rw [xu_k (by decide), if_pos rfl]
      by_cases e : j = 11
      · subst e
        rw [if_pos rfl, show 27 * 11 + i = 297 + i by omega, y3 i hi, xu_k (by decide), x2 95 i (by decide)]
      · rw [if_neg (by omega), y4 _ (by omega), xu_k (by decide), x3 _ (by omega) (by omega), if_pos rfl, show 27 * j + i + 27 = 27 * (j + 1) + i by omega]
  · have hne : ¬ Int32.ofNat sz = (12 : Int32) := fun z => h (xr_nat_inj (b := 12) (by omega) (by omega) z)
    obtain ⟨I2, y1, y2, y3, y4⟩ := yq_l95_105 (d := d) (J := J) (R := R) (off := 27 * sz) (I := I) (by omega)
    have g24 : (I2, J, R).1 94 24 = Int32.ofNat sz := (y2 94 24 (by decide)).trans hs
    have a1 : Int32.ofNat sz + (1 : Int32) = Int32.ofNat (sz + 1) := (Int32.ofNat_add sz 1).symm
    rw [if_pos hne, yq_27 sz (by omega), y1, xb_V1, g24, a1]
    refine ⟨xq_upd I2 94 24 (Int32.ofNat (sz + 1)), rfl, ?_, fun k j h1 h2 => ?_, fun j hj i hi => ?_⟩
    · rw [xu_t, if_neg h]
    · rw [xq_upd_n h2, y2 k j h1]
    · rw [if_neg h] at hj
      rw [xu_k (by decide), if_neg h, if_neg h]
      by_cases e : j = sz
      · subst e
        rw [if_pos (by omega), y3 i hi]
      · rw [if_neg (by omega), y4 _ (by omega)]
/-- the oldest is forgotten -/
theorem yq_sh106 : ∀ (m i : Nat) (I : Nat → Nat → Int32), i + m = 297 → ∃ I', qX8_remember_106_h11 d (Int32.ofNat i) (I, J, R) = qX8_remember_106_h11 d (Int32.ofNat 297) (I', J, R) ∧ (∀ k j, ¬ k = 105 → I' k j = I k j) ∧ (∀ j, i ≤ j → j < 297 → I' 105 j = I 105 (j + 27)) ∧ ∀ j, j < i ∨ 297 ≤ j → I' 105 j = I 105 j
  | 0, i, I, hi => by
    obtain rfl : i = 297 := by omega
    exact ⟨I, rfl, fun _ _ _ => rfl, fun j h1 h2 => by omega, fun _ _ => rfl⟩
  | m + 1, i, I, hi => by
    have b1 := xt_nat (n := i) (by omega)
    have b2 : (Int32.ofNat i).toInt.toNat = i := by omega
    have a1 : Int32.ofNat i + (1 : Int32) = Int32.ofNat (i + 1) := (Int32.ofNat_add i 1).symm
    have c0 : Int32.ofNat i + (27 : Int32) = Int32.ofNat (i + 27) := (Int32.ofNat_add i 27).symm
    have c1 := xt_nat (n := i + 27) (by omega)
    have c2 : (Int32.ofNat (i + 27)).toInt.toNat = i + 27 := by omega
    rw [qX8_remember_106_h11_eq, if_neg (fun z => by have := (xr_le (a := 297) (by omega) (by omega)).mp z; omega), c0, c2, c1, if_pos (by omega), b2, b1, if_pos (by omega), a1]
    obtain ⟨I', x1, x2, x3, x4⟩ := yq_sh106 m (i + 1) (xq_upd I 105 i (I 105 (i + 27))) (by omega)
    refine ⟨I', x1, fun k j hk => (x2 k j hk).trans (xu_k hk), fun j h1 h2 => ?_, fun j hj => ?_⟩
    · by_cases e : j = i
      · subst e
        rw [x4 j (by omega), xu_t]
      · rw [x3 j (by omega) h2, xu_j (by omega)]
    · rw [x4 j (by omega), xu_j (by omega)]
/-- a state is remembered -/
theorem yq_rem106 {I : Nat → Nat → Int32} (hs : I 94 24 = Int32.ofNat sz) (hsz : sz ≤ 12) : ∃ I', xq_D xqP (d + 2) 269 [.ref 94, .ref 106] (I, J, R) = some (none, I', J, R) ∧ I' 94 24 = Int32.ofNat (if sz = 12 then 12 else sz + 1) ∧ (∀ k j, ¬ k = 105 → ¬ (k = 94 ∧ j = 24) → I' k j = I k j) ∧ ∀ j, j < (if sz = 12 then 12 else sz + 1) → ∀ i, i < 27 → I' 105 (27 * j + i) = if j = (if sz = 12 then 12 else sz + 1) - 1 then I 106 i else I 105 (27 * (if sz = 12 then j + 1 else j) + i) := by
  have hs' : (I, J, R).1 94 24 = Int32.ofNat sz := hs
  rw [qX8_remember_106_eq, hs']
  by_cases h : sz = 12
  · subst h
    rw [if_neg (fun z => z rfl)]
    obtain ⟨I1, x1, x2, x3, x4⟩ := yq_sh106 (d := d + 1) (J := J) (R := R) 297 0 I (by omega)
    have x1 : qX8_remember_106_h11 (d + 1) 0 (I, J, R) = _ := x1
    have hs1 : (I1, J, R).1 94 24 = Int32.ofNat 12 := (x2 94 24 (by decide)).trans hs
    obtain ⟨I2, y1, y2, y3, y4⟩ := yq_l106_105 (d := d) (J := J) (R := R) (off := 297) (I := xq_upd I1 94 24 (Int32.ofNat 11)) (by omega)
    have e1 : (Int32.ofNat 12 - (1 : Int32)) = Int32.ofNat 11 := by decide
    have e2 : (27 : Int32) * Int32.ofNat 11 = Int32.ofNat 297 := by decide
    have g24 : (I2, J, R).1 94 24 = Int32.ofNat 11 := by
      show I2 94 24 = _
      rw [y2 94 24 (by decide), xu_t]
    rw [x1, qX8_remember_106_h11_eq, if_pos (by decide), hs1, e1, e2, y1, xb_V1, g24]
    refine ⟨xq_upd I2 94 24 (Int32.ofNat 11 + (1 : Int32)), rfl, ?_, fun k j h1 h2 => ?_, fun j hj i hi => ?_⟩
    · rw [xu_t]
      rfl
    · rw [xq_upd_n h2, y2 k j h1, xq_upd_n h2, x2 k j h1]
    · rw [if_pos rfl] at hj
      rw [xu_k (by decide), if_pos rfl]
      by_cases e : j = 11
      · subst e
        rw [if_pos rfl, show 27 * 11 + i = 297 + i by omega, y3 i hi, xu_k (by decide), x2 106 i (by decide)]
      · rw [if_neg (by omega), y4 _ (by omega), xu_k (by decide), x3 _ (by omega) (by omega), if_pos rfl, show 27 * j + i + 27 = 27 * (j + 1) + i by omega]
  · have hne : ¬ Int32.ofNat sz = (12 : Int32) := fun z => h (xr_nat_inj (b := 12) (by omega) (by omega) z)
    obtain ⟨I2, y1, y2, y3, y4⟩ := yq_l106_105 (d := d) (J := J) (R := R) (off := 27 * sz) (I := I) (by omega)
    have g24 : (I2, J, R).1 94 24 = Int32.ofNat sz := (y2 94 24 (by decide)).trans hs
    have a1 : Int32.ofNat sz + (1 : Int32) = Int32.ofNat (sz + 1) := (Int32.ofNat_add sz 1).symm
    rw [if_pos hne, yq_27 sz (by omega), y1, xb_V1, g24, a1]
    refine ⟨xq_upd I2 94 24 (Int32.ofNat (sz + 1)), rfl, ?_, fun k j h1 h2 => ?_, fun j hj i hi => ?_⟩
    · rw [xu_t, if_neg h]
    · rw [xq_upd_n h2, y2 k j h1]
    · rw [if_neg h] at hj
      rw [xu_k (by decide), if_neg h, if_neg h]
      by_cases e : j = sz
      · subst e
        rw [if_pos (by omega), y3 i hi]
      · rw [if_neg (by omega), y4 _ (by omega)]
theorem yq_undol {o : Nat} (ho : o < 12) : ∀ (m i : Nat) (I : Nat → Nat → Int32), i + m = 27 → I 94 24 = Int32.ofNat o → ∃ I', qX8_undo_h26 d (Int32.ofNat i) (I, J, R) = some (some (.int (Int32.ofNat o)), I', J, R) ∧ (∀ k j, ¬ k = 95 → I' k j = I k j) ∧ (∀ j, i ≤ j → j < 27 → I' 95 j = I 105 (27 * o + j)) ∧ ∀ j, j < i ∨ 27 ≤ j → I' 95 j = I 95 j
  | 0, i, I, hi, h24 => by
    have h24' : (I, J, R).1 94 24 = Int32.ofNat o := h24
    rw [qX8_undo_h26_eq, if_pos (show (27 : Int32) ≤ Int32.ofNat i from (xr_le (a := 27) (by omega) (by omega)).mpr (by omega)), h24']
    exact ⟨I, rfl, fun _ _ _ => rfl, fun j h1 h2 => by omega, fun _ _ => rfl⟩
  | m + 1, i, I, hi, h24 => by
    have h24' : (I, J, R).1 94 24 = Int32.ofNat o := h24
    have b1 := xt_nat (n := i) (by omega)
    have b2 : (Int32.ofNat i).toInt.toNat = i := by omega
    have a1 : Int32.ofNat i + (1 : Int32) = Int32.ofNat (i + 1) := (Int32.ofNat_add i 1).symm
    have c0 : (27 : Int32) * Int32.ofNat o + Int32.ofNat i = Int32.ofNat (27 * o + i) := by
      rw [yq_27 o (by omega)]
      exact (Int32.ofNat_add (27 * o) i).symm
    have c1 := xt_nat (n := 27 * o + i) (by omega)
    have c2 : (Int32.ofNat (27 * o + i)).toInt.toNat = 27 * o + i := by omega
    rw [qX8_undo_h26_eq, if_neg (fun z => by have := (xr_le (a := 27) (by omega) (by omega)).mp z; omega), h24', c0, c2, c1, if_pos (by omega), b2, b1, if_pos (by omega), a1]
    obtain ⟨I', x1, x2, x3, x4⟩ := yq_undol ho m (i + 1) (xq_upd I 95 i (I 105 (27 * o + i))) (by omega) (by rw [xu_k (by decide)]; exact h24)
    refine ⟨I', x1, fun k j hk => (x2 k j hk).trans (xu_k hk), fun j h1 h2 => ?_, fun j hj => ?_⟩
    · by_cases e : j = i
      · subst e
        rw [x4 j (by omega), xu_t]
      · rw [x3 j (by omega) h2, xu_k (by decide)]
    · rw [x4 j (by omega), xu_j (by omega)]
/-- undo() of the reference -/
theorem yq_undoR {I : Nat → Nat → Int32} (hs : I 94 24 = Int32.ofNat sz) (hsz : sz ≤ 12) : (sz = 0 → xq_D xqP (d + 1) 295 [.ref 94] (I, J, R) = some (some (.int (-1)), xq_upd I 94 11 0, J, R)) ∧ (0 < sz → ∃ I', xq_D xqP (d + 1) 295 [.ref 94] (I, J, R) = some (some (.int (Int32.ofNat (sz - 1))), I', J, R) ∧ I' 94 24 = Int32.ofNat (sz - 1) ∧ (∀ k j, ¬ k = 95 → ¬ (k = 94 ∧ (j = 11 ∨ j = 24)) → I' k j = I k j) ∧ ∀ j, j < 27 → I' 95 j = I 105 (27 * (sz - 1) + j)) := by
  have hs' : (I, J, R).1 94 24 = Int32.ofNat sz := hs
  constructor
  · intro hz
    subst hz
    rw [qX8_undo_eq, hs', if_neg (fun z => z rfl)]
  · intro hz
    have hne : ¬ Int32.ofNat sz = 0 := fun z => by
      have := congrArg Int32.toInt z
      rw [xt_nat (by omega)] at this
      have e0 : (0 : Int32).toInt = 0 := by decide
      omega
    rw [qX8_undo_eq, hs', if_pos hne, yd_sub1 hz]
    obtain ⟨I', x1, x2, x3, x4⟩ := yq_undol (d := d) (J := J) (R := R) (o := sz - 1) (by omega) 27 0 (xq_upd (xq_upd I 94 11 0) 94 24 (Int32.ofNat (sz - 1))) (by omega) xu_t
    refine ⟨I', x1, ?_, fun k j h1 h2 => ?_, fun j hj => ?_⟩
    · rw [x2 94 24 (by decide), xu_t]
    · rw [x2 k j h1, xq_upd_n (by omega), xq_upd_n (by omega)]
    · rw [x3 j (Nat.zero_le _) hj, xu_k (by decide), xu_k (by decide)]
theorem yq_agl {o : Nat} (ho : o < 2) : ∀ (m i : Nat) (I : Nat → Nat → Int32), i + m = 27 → ∃ I', qX8_again_h40 d (Int32.ofNat o) (Int32.ofNat i) (I, J, R) = some (some (.int 1), I', J, R) ∧ (∀ k j, ¬ k = 95 → ¬ (k = 94 ∧ j = 24) → I' k j = I k j) ∧ I' 94 24 = 0 ∧ (∀ j, i ≤ j → j < 27 → I' 95 j = I 122 (27 * o + j)) ∧ ∀ j, j < i ∨ 27 ≤ j → I' 95 j = I 95 j
  | 0, i, I, hi => by
    rw [qX8_again_h40_eq, if_pos (show (27 : Int32) ≤ Int32.ofNat i from (xr_le (a := 27) (by omega) (by omega)).mpr (by omega))]
    exact ⟨_, rfl, fun k j h1 h2 => xq_upd_n h2, xu_t, fun j h1 h2 => by omega, fun j _ => xu_k (by decide)⟩
  | m + 1, i, I, hi => by
    have b1 := xt_nat (n := i) (by omega)
    have b2 : (Int32.ofNat i).toInt.toNat = i := by omega
    have a1 : Int32.ofNat i + (1 : Int32) = Int32.ofNat (i + 1) := (Int32.ofNat_add i 1).symm
    have c0 : (27 : Int32) * Int32.ofNat o + Int32.ofNat i = Int32.ofNat (27 * o + i) := by
      rw [yq_27 o (by omega)]
      exact (Int32.ofNat_add (27 * o) i).symm
    have c1 := xt_nat (n := 27 * o + i) (by omega)
    have c2 : (Int32.ofNat (27 * o + i)).toInt.toNat = 27 * o + i := by omega
    rw [qX8_again_h40_eq, if_neg (fun z => by have := (xr_le (a := 27) (by omega) (by omega)).mp z; omega), c0, c2, c1, if_pos (by omega), b2, b1, if_pos (by omega), a1]
    obtain ⟨I', x1, x2, x0, x3, x4⟩ := yq_agl ho m (i + 1) (xq_upd I 95 i (I 122 (27 * o + i))) (by omega)
    refine ⟨I', x1, fun k j hk h2 => (x2 k j hk h2).trans (xu_k hk), x0, fun j h1 h2 => ?_, fun j hj => ?_⟩
    · by_cases e : j = i
      · subst e
        rw [x4 j (by omega), xu_t]
      · rw [x3 j (by omega) h2, xu_k (by decide)]
    · rw [x4 j (by omega), xu_j (by omega)]
end YQB
