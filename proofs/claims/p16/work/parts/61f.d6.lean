/-! HELD ROTAS: open(), least() whole (the class) -/
section YDF
variable {d : Nat} {R : Nat → Nat → Nat}
theorem yd_fl72 {v : Int64} {I : Nat → Nat → Int32} : ∀ (m i : Nat) (J : Nat → Nat → Int64), i + m = 256 → ∃ J', qJ7_fill_d0a16_72_h6 d v (Int32.ofNat i) (Int32.ofNat 256) (I, J, R) = some (none, I, J', R) ∧ (∀ k j, ¬ k = 72 → J' k j = J k j) ∧ (∀ j, j < i → J' 72 j = J 72 j) ∧ ∀ j, i ≤ j → j < 256 → J' 72 j = v
  | 0, i, J, hi => by
    rw [qJ7_fill_d0a16_72_h6_eq, if_pos ((xr_le (by omega) (by omega)).mpr (by omega))]
    exact ⟨J, rfl, fun _ _ _ => rfl, fun _ _ => rfl, fun j h1 h2 => by omega⟩
  | m + 1, i, J, hi => by
    have b1 := xt_nat (n := i) (by omega)
    have b2 : (Int32.ofNat i).toInt.toNat = i := by omega
    have a1 : Int32.ofNat i + (1 : Int32) = Int32.ofNat (i + 1) := (Int32.ofNat_add i 1).symm
    rw [qJ7_fill_d0a16_72_h6_eq, if_neg (fun z => by have := (xr_le (by omega) (by omega)).mp z; omega), b2, b1, if_pos (by omega), a1]
    obtain ⟨J', x1, x2, x3, x4⟩ := yd_fl72 (v := v) (I := I) m (i + 1) (xq_upd J 72 i v) (by omega)
    refine ⟨J', x1, fun k j hk => (x2 k j hk).trans (xu_k hk), fun j hj => ?_, fun j h1 h2 => ?_⟩
    · rw [x3 j (by omega), xu_j (by omega)]
    · by_cases e : j = i
      · subst e
        rw [x3 j (by omega), xu_t]
      · exact x4 j (by omega) h2
theorem yd_fill72 {v : Int64} {I : Nat → Nat → Int32} {J : Nat → Nat → Int64} : ∃ J', xq_D xqP (d + 1) 17 [.ref 72, .long v] (I, J, R) = some (none, I, J', R) ∧ (∀ k j, ¬ k = 72 → J' k j = J k j) ∧ ∀ j, j < 256 → J' 72 j = v := by
  obtain ⟨J', x1, x2, x3, x4⟩ := yd_fl72 (d := d) (R := R) (v := v) (I := I) 256 0 J (by omega)
  rw [qJ7_fill_d0a16_72_eq]
  exact ⟨J', x1, x2, fun j hj => x4 j (Nat.zero_le _) hj⟩
theorem yd_fl70 {v : Int64} {I : Nat → Nat → Int32} : ∀ (m i : Nat) (J : Nat → Nat → Int64), i + m = 8 → ∃ J', qJ7_fill_d0a16_70_h6 d v (Int32.ofNat i) (Int32.ofNat 8) (I, J, R) = some (none, I, J', R) ∧ (∀ k j, ¬ k = 70 → J' k j = J k j) ∧ (∀ j, j < i → J' 70 j = J 70 j) ∧ ∀ j, i ≤ j → j < 8 → J' 70 j = v
  | 0, i, J, hi => by
    rw [qJ7_fill_d0a16_70_h6_eq, if_pos ((xr_le (by omega) (by omega)).mpr (by omega))]
    exact ⟨J, rfl, fun _ _ _ => rfl, fun _ _ => rfl, fun j h1 h2 => by omega⟩
  | m + 1, i, J, hi => by
    have b1 := xt_nat (n := i) (by omega)
    have b2 : (Int32.ofNat i).toInt.toNat = i := by omega
    have a1 : Int32.ofNat i + (1 : Int32) = Int32.ofNat (i + 1) := (Int32.ofNat_add i 1).symm
    rw [qJ7_fill_d0a16_70_h6_eq, if_neg (fun z => by have := (xr_le (by omega) (by omega)).mp z; omega), b2, b1, if_pos (by omega), a1]
    obtain ⟨J', x1, x2, x3, x4⟩ := yd_fl70 (v := v) (I := I) m (i + 1) (xq_upd J 70 i v) (by omega)
    refine ⟨J', x1, fun k j hk => (x2 k j hk).trans (xu_k hk), fun j hj => ?_, fun j h1 h2 => ?_⟩
    · rw [x3 j (by omega), xu_j (by omega)]
    · by_cases e : j = i
      · subst e
        rw [x3 j (by omega), xu_t]
      · exact x4 j (by omega) h2
theorem yd_fill70 {v : Int64} {I : Nat → Nat → Int32} {J : Nat → Nat → Int64} : ∃ J', xq_D xqP (d + 1) 17 [.ref 70, .long v] (I, J, R) = some (none, I, J', R) ∧ (∀ k j, ¬ k = 70 → J' k j = J k j) ∧ ∀ j, j < 8 → J' 70 j = v := by
  obtain ⟨J', x1, x2, x3, x4⟩ := yd_fl70 (d := d) (R := R) (v := v) (I := I) 8 0 J (by omega)
  rw [qJ7_fill_d0a16_70_eq]
  exact ⟨J', x1, x2, fun j hj => x4 j (Nat.zero_le _) hj⟩
theorem yd_fl69 {v : Int64} {I : Nat → Nat → Int32} : ∀ (m i : Nat) (J : Nat → Nat → Int64), i + m = 64 → ∃ J', qJ7_fill_d0a16_69_h6 d v (Int32.ofNat i) (Int32.ofNat 64) (I, J, R) = some (none, I, J', R) ∧ (∀ k j, ¬ k = 69 → J' k j = J k j) ∧ (∀ j, j < i → J' 69 j = J 69 j) ∧ ∀ j, i ≤ j → j < 64 → J' 69 j = v
  | 0, i, J, hi => by
    rw [qJ7_fill_d0a16_69_h6_eq, if_pos ((xr_le (by omega) (by omega)).mpr (by omega))]
    exact ⟨J, rfl, fun _ _ _ => rfl, fun _ _ => rfl, fun j h1 h2 => by omega⟩
  | m + 1, i, J, hi => by
    have b1 := xt_nat (n := i) (by omega)
    have b2 : (Int32.ofNat i).toInt.toNat = i := by omega
    have a1 : Int32.ofNat i + (1 : Int32) = Int32.ofNat (i + 1) := (Int32.ofNat_add i 1).symm
    rw [qJ7_fill_d0a16_69_h6_eq, if_neg (fun z => by have := (xr_le (by omega) (by omega)).mp z; omega), b2, b1, if_pos (by omega), a1]
    obtain ⟨J', x1, x2, x3, x4⟩ := yd_fl69 (v := v) (I := I) m (i + 1) (xq_upd J 69 i v) (by omega)
    refine ⟨J', x1, fun k j hk => (x2 k j hk).trans (xu_k hk), fun j hj => ?_, fun j h1 h2 => ?_⟩
    · rw [x3 j (by omega), xu_j (by omega)]
    · by_cases e : j = i
      · subst e
        rw [x3 j (by omega), xu_t]
      · exact x4 j (by omega) h2
theorem yd_fill69 {v : Int64} {I : Nat → Nat → Int32} {J : Nat → Nat → Int64} : ∃ J', xq_D xqP (d + 1) 17 [.ref 69, .long v] (I, J, R) = some (none, I, J', R) ∧ (∀ k j, ¬ k = 69 → J' k j = J k j) ∧ ∀ j, j < 64 → J' 69 j = v := by
  obtain ⟨J', x1, x2, x3, x4⟩ := yd_fl69 (d := d) (R := R) (v := v) (I := I) 64 0 J (by omega)
  rw [qJ7_fill_d0a16_69_eq]
  exact ⟨J', x1, x2, fun j hj => x4 j (Nat.zero_le _) hj⟩
theorem yd_fl65 {v : Int32} {J : Nat → Nat → Int64} : ∀ (m i : Nat) (I : Nat → Nat → Int32), i + m = 8 → ∃ I', qJ7_fill_53178_65_h5 d v (Int32.ofNat i) (Int32.ofNat 8) (I, J, R) = some (none, I', J, R) ∧ (∀ k j, ¬ k = 65 → I' k j = I k j) ∧ (∀ j, j < i → I' 65 j = I 65 j) ∧ ∀ j, i ≤ j → j < 8 → I' 65 j = v
  | 0, i, I, hi => by
    rw [qJ7_fill_53178_65_h5_eq, if_pos ((xr_le (by omega) (by omega)).mpr (by omega))]
    exact ⟨I, rfl, fun _ _ _ => rfl, fun _ _ => rfl, fun j h1 h2 => by omega⟩
  | m + 1, i, I, hi => by
    have b1 := xt_nat (n := i) (by omega)
    have b2 : (Int32.ofNat i).toInt.toNat = i := by omega
    have a1 : Int32.ofNat i + (1 : Int32) = Int32.ofNat (i + 1) := (Int32.ofNat_add i 1).symm
    rw [qJ7_fill_53178_65_h5_eq, if_neg (fun z => by have := (xr_le (by omega) (by omega)).mp z; omega), b2, b1, if_pos (by omega), a1]
    obtain ⟨I', x1, x2, x3, x4⟩ := yd_fl65 (v := v) (J := J) m (i + 1) (xq_upd I 65 i v) (by omega)
    refine ⟨I', x1, fun k j hk => (x2 k j hk).trans (xu_k hk), fun j hj => ?_, fun j h1 h2 => ?_⟩
    · rw [x3 j (by omega), xu_j (by omega)]
    · by_cases e : j = i
      · subst e
        rw [x3 j (by omega), xu_t]
      · exact x4 j (by omega) h2
theorem yd_fill65 {v : Int32} {I : Nat → Nat → Int32} {J : Nat → Nat → Int64} : ∃ I', xq_D xqP (d + 1) 16 [.ref 65, .int v] (I, J, R) = some (none, I', J, R) ∧ (∀ k j, ¬ k = 65 → I' k j = I k j) ∧ ∀ j, j < 8 → I' 65 j = v := by
  obtain ⟨I', x1, x2, x3, x4⟩ := yd_fl65 (d := d) (R := R) (v := v) (J := J) 8 0 I (by omega)
  rw [qJ7_fill_53178_65_eq]
  exact ⟨I', x1, x2, fun j hj => x4 j (Nat.zero_le _) hj⟩
theorem yd_fl66 {v : Int32} {J : Nat → Nat → Int64} : ∀ (m i : Nat) (I : Nat → Nat → Int32), i + m = 8 → ∃ I', qJ7_fill_53178_66_h5 d v (Int32.ofNat i) (Int32.ofNat 8) (I, J, R) = some (none, I', J, R) ∧ (∀ k j, ¬ k = 66 → I' k j = I k j) ∧ (∀ j, j < i → I' 66 j = I 66 j) ∧ ∀ j, i ≤ j → j < 8 → I' 66 j = v
  | 0, i, I, hi => by
    rw [qJ7_fill_53178_66_h5_eq, if_pos ((xr_le (by omega) (by omega)).mpr (by omega))]
    exact ⟨I, rfl, fun _ _ _ => rfl, fun _ _ => rfl, fun j h1 h2 => by omega⟩
  | m + 1, i, I, hi => by
    have b1 := xt_nat (n := i) (by omega)
    have b2 : (Int32.ofNat i).toInt.toNat = i := by omega
    have a1 : Int32.ofNat i + (1 : Int32) = Int32.ofNat (i + 1) := (Int32.ofNat_add i 1).symm
    rw [qJ7_fill_53178_66_h5_eq, if_neg (fun z => by have := (xr_le (by omega) (by omega)).mp z; omega), b2, b1, if_pos (by omega), a1]
    obtain ⟨I', x1, x2, x3, x4⟩ := yd_fl66 (v := v) (J := J) m (i + 1) (xq_upd I 66 i v) (by omega)
    refine ⟨I', x1, fun k j hk => (x2 k j hk).trans (xu_k hk), fun j hj => ?_, fun j h1 h2 => ?_⟩
    · rw [x3 j (by omega), xu_j (by omega)]
    · by_cases e : j = i
      · subst e
        rw [x3 j (by omega), xu_t]
      · exact x4 j (by omega) h2
theorem yd_fill66 {v : Int32} {I : Nat → Nat → Int32} {J : Nat → Nat → Int64} : ∃ I', xq_D xqP (d + 1) 16 [.ref 66, .int v] (I, J, R) = some (none, I', J, R) ∧ (∀ k j, ¬ k = 66 → I' k j = I k j) ∧ ∀ j, j < 8 → I' 66 j = v := by
  obtain ⟨I', x1, x2, x3, x4⟩ := yd_fl66 (d := d) (R := R) (v := v) (J := J) 8 0 I (by omega)
  rw [qJ7_fill_53178_66_eq]
  exact ⟨I', x1, x2, fun j hj => x4 j (Nat.zero_le _) hj⟩
theorem yd_fl68 {v : Int32} {J : Nat → Nat → Int64} : ∀ (m i : Nat) (I : Nat → Nat → Int32), i + m = 8 → ∃ I', qJ7_fill_53178_68_h5 d v (Int32.ofNat i) (Int32.ofNat 8) (I, J, R) = some (none, I', J, R) ∧ (∀ k j, ¬ k = 68 → I' k j = I k j) ∧ (∀ j, j < i → I' 68 j = I 68 j) ∧ ∀ j, i ≤ j → j < 8 → I' 68 j = v
  | 0, i, I, hi => by
    rw [qJ7_fill_53178_68_h5_eq, if_pos ((xr_le (by omega) (by omega)).mpr (by omega))]
    exact ⟨I, rfl, fun _ _ _ => rfl, fun _ _ => rfl, fun j h1 h2 => by omega⟩
  | m + 1, i, I, hi => by
    have b1 := xt_nat (n := i) (by omega)
    have b2 : (Int32.ofNat i).toInt.toNat = i := by omega
    have a1 : Int32.ofNat i + (1 : Int32) = Int32.ofNat (i + 1) := (Int32.ofNat_add i 1).symm
    rw [qJ7_fill_53178_68_h5_eq, if_neg (fun z => by have := (xr_le (by omega) (by omega)).mp z; omega), b2, b1, if_pos (by omega), a1]
    obtain ⟨I', x1, x2, x3, x4⟩ := yd_fl68 (v := v) (J := J) m (i + 1) (xq_upd I 68 i v) (by omega)
    refine ⟨I', x1, fun k j hk => (x2 k j hk).trans (xu_k hk), fun j hj => ?_, fun j h1 h2 => ?_⟩
    · rw [x3 j (by omega), xu_j (by omega)]
    · by_cases e : j = i
      · subst e
        rw [x3 j (by omega), xu_t]
      · exact x4 j (by omega) h2
theorem yd_fill68 {v : Int32} {I : Nat → Nat → Int32} {J : Nat → Nat → Int64} : ∃ I', xq_D xqP (d + 1) 16 [.ref 68, .int v] (I, J, R) = some (none, I', J, R) ∧ (∀ k j, ¬ k = 68 → I' k j = I k j) ∧ ∀ j, j < 8 → I' 68 j = v := by
  obtain ⟨I', x1, x2, x3, x4⟩ := yd_fl68 (d := d) (R := R) (v := v) (J := J) 8 0 I (by omega)
  rw [qJ7_fill_53178_68_eq]
  exact ⟨I', x1, x2, fun j hj => x4 j (Nat.zero_le _) hj⟩
theorem yd_ord {J : Nat → Nat → Int64} : ∀ (m i : Nat) (I : Nat → Nat → Int32), i + m = 8 → ∃ I', qX4_open_h58 d (Int32.ofNat i) (I, J, R) = some (none, I', J, R) ∧ (∀ k j, ¬ k = 67 → I' k j = I k j) ∧ (∀ j, j < i → I' 67 j = I 67 j) ∧ ∀ j, i ≤ j → j < 8 → I' 67 j = Int32.ofNat j
  | 0, i, I, hi => by
    rw [qX4_open_h58_eq, if_pos (show (8 : Int32) ≤ Int32.ofNat i from (xr_le (a := 8) (by omega) (by omega)).mpr (by omega))]
    exact ⟨I, rfl, fun _ _ _ => rfl, fun _ _ => rfl, fun j h1 h2 => by omega⟩
  | m + 1, i, I, hi => by
    have b1 := xt_nat (n := i) (by omega)
    have b2 : (Int32.ofNat i).toInt.toNat = i := by omega
    have a1 : Int32.ofNat i + (1 : Int32) = Int32.ofNat (i + 1) := (Int32.ofNat_add i 1).symm
    rw [qX4_open_h58_eq, if_neg (fun z => by have := (xr_le (a := 8) (by omega) (by omega)).mp z; omega), b2, b1, if_pos (by omega), a1]
    obtain ⟨I', x1, x2, x3, x4⟩ := yd_ord (J := J) m (i + 1) (xq_upd I 67 i (Int32.ofNat i)) (by omega)
    refine ⟨I', x1, fun k j hk => (x2 k j hk).trans (xu_k hk), fun j hj => ?_, fun j h1 h2 => ?_⟩
    · rw [x3 j (by omega), xu_j (by omega)]
    · by_cases e : j = i
      · subst e
        rw [x3 j (by omega), xu_t]
      · exact x4 j (by omega) h2
/-- nobody has a seat yet, and nothing costs -/
theorem yd_open {n : Nat} {I : Nat → Nat → Int32} {J : Nat → Nat → Int64} (hn : n ≤ 8) : ∃ I' J', xq_D xqP (d + 2) 74 [.ref 64, .int (Int32.ofNat n)] (I, J, R) = some (none, I', J', R) ∧ (∀ k j, ¬ (64 ≤ k ∧ k ≤ 68) → I' k j = I k j) ∧ I' 64 13 = Int32.ofNat (2 ^ n - 1) ∧ (∀ r, r < 8 → I' 65 r = 0 ∧ I' 66 r = 0 ∧ I' 68 r = 0 ∧ I' 67 r = Int32.ofNat r) ∧ (J' 64 14).toInt = yd_NO - 1 ∧ (∀ j, j < 64 → J' 69 j = 0) ∧ ∀ r, r < 8 → J' 70 r = 0 := by
  have hf := (yd_full n (by omega)).1
  rw [qX4_open_eq, hf]
  obtain ⟨I1, a1, a2, a3⟩ := yd_fill65 (d := d) (R := R) (v := 0) (I := xq_upd I 64 13 (Int32.ofNat (2 ^ n - 1))) (J := xq_upd J 64 14 1152921504606846975)
  obtain ⟨I2, b1, b2, b3⟩ := yd_fill66 (d := d) (R := R) (v := 0) (I := I1) (J := xq_upd J 64 14 1152921504606846975)
  obtain ⟨I3, c1, c2, c3⟩ := yd_fill68 (d := d) (R := R) (v := 0) (I := I2) (J := xq_upd J 64 14 1152921504606846975)
  obtain ⟨J4, e1, e2, e3⟩ := yd_fill70 (d := d) (R := R) (v := 0) (I := I3) (J := xq_upd J 64 14 1152921504606846975)
  obtain ⟨J5, f1, f2, f3⟩ := yd_fill69 (d := d) (R := R) (v := 0) (I := I3) (J := J4)
  obtain ⟨I6, g1, g2, g3, g4⟩ := yd_ord (d := d + 1) (R := R) (J := J5) 8 0 I3 (by omega)
  show ∃ I' J', xq_bV (xq_D xqP (d + 1) 16 [.ref 65, .int 0] (xq_upd I 64 13 (Int32.ofNat (2 ^ n - 1)), xq_upd J 64 14 1152921504606846975, R)) _ = _ ∧ _
  rw [a1, xb_V1, b1, xb_V1, c1, xb_V1, e1, xb_V1, f1, xb_V1]
  refine ⟨I6, J5, g1, fun k j hk => ?_, ?_, fun r hr => ⟨?_, ?_, ?_, ?_⟩, ?_, f3, fun r hr => ?_⟩
  · rw [g2 k j (by omega), c2 k j (by omega), b2 k j (by omega), a2 k j (by omega), xq_upd_n (by omega)]
  · rw [g2 64 13 (by decide), c2 64 13 (by decide), b2 64 13 (by decide), a2 64 13 (by decide), xu_t]
  · rw [g2 65 r (by decide), c2 65 r (by decide), b2 65 r (by decide), a3 r hr]
  · rw [g2 66 r (by decide), c2 66 r (by decide), b3 r hr]
  · rw [g2 68 r (by decide), c3 r hr]
  · exact g4 r (Nat.zero_le _) hr
  · rw [f2 64 14 (by decide), e2 64 14 (by decide), xu_t]
    decide
  · rw [f2 70 r (by decide), e3 r hr]
theorem yd_least {full : Nat} {I : Nat → Nat → Int32} {J : Nat → Nat → Int64} {may : Nat → Nat} {cap : Nat → Int} {lim : Int} {fl : Nat → Int} {f : Nat → Nat → Int} (hfull : full < 256) (i13 : I 64 13 = Int32.ofNat full) (i67 : ∀ r, r < 8 → I 67 r = Int32.ofNat r) (i68 : ∀ r, r < 8 → I 68 r = 0) (i65 : ∀ r, r < 8 → I 65 r = Int32.ofNat (may r) ∧ may r < 256) (i66 : ∀ r, r < 8 → (I 66 r).toInt = cap r ∧ 0 ≤ cap r) (hlim : 0 ≤ lim ∧ lim < yd_NO) (hfl : ∀ r, r < 8 → 0 ≤ fl r ∧ fl r ≤ 68719476736) (hf : ∀ r, r < 8 → ∀ h, h < 8 → 0 ≤ f r h ∧ f r h ≤ 68719476736) (j69 : ∀ r, r < 8 → ∀ h, h < 8 → (J 69 (8 * r + h)).toInt = f r h) (j70 : ∀ r, r < 8 → (J 70 r).toInt = fl r) (j64 : (J 64 14).toInt = lim) : ∃ v J', xq_D xqP (d + 5) 71 [.ref 64] (I, J, R) = some (some (.long v), I, J', R) ∧ (∀ k j, ¬ k = 71 → ¬ k = 72 → J' k j = J k j) ∧ yd_B (yd_okc may cap lim fl f) (yd_wc fl f) 8 full (fun t => (J' 72 t).toInt) ∧ v = J' 72 full := by
  rw [qX4_least_eq]
  obtain ⟨J1, x1, x2, x3⟩ := yd_fill72 (d := d + 3) (R := R) (v := 1152921504606846976) (I := I) (J := J)
  rw [x1, xb_V1]
  obtain ⟨v, J', y1, y2, y3, y4⟩ := yd_leastl (d := d) (R := R) hfull i13 i67 i68 i65 i66 hlim hfl hf 8 0 (xq_upd J1 72 0 0) (by omega) (fun r hr h hh => by rw [xu_k (by decide), x2 69 _ (by decide)]; exact j69 r hr h hh) (fun r hr => by rw [xu_k (by decide), x2 70 _ (by decide)]; exact j70 r hr) (by rw [xu_k (by decide), x2 64 _ (by decide)]; exact j64) (yd_B0 (by show (xq_upd J1 72 0 0 72 0).toInt = 0; rw [xu_t]; decide) (fun t h1 h2 => by show (xq_upd J1 72 0 0 72 t).toInt = yd_NO; rw [xu_j (by omega), x3 t (by omega)]; decide))
  exact ⟨v, J', y1, fun k j h1 h2 => by rw [y2 k j h1 h2, xu_k h2, x2 k j h2], y3, y4⟩
end YDF
