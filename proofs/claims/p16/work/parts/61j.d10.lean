/-! HELD ROTAS: hardBy(), canTake() of the reference -/
theorem yd_tb8 : ∀ a : Nat, a < 256 → ∀ h : Nat, h < 8 → (((Int32.ofNat a >>> (Int32.ofNat h &&& 31)) &&& (1 : Int32)) = 1 ↔ a.testBit h = true) := by decide +kernel
theorem yd_row : ∀ r : Nat, r < 9 → ∀ t : Nat, t < 256 → ((Int32.ofNat r <<< ((8 : Int32) &&& 31)) ||| Int32.ofNat t) = Int32.ofNat (256 * r + t) := by decide +kernel
theorem yd_sub2 {n t : Nat} (h : t ≤ 2 ^ n - 1) : t &&& (2 ^ n - 1) = t := by
  have h2 : t < 2 ^ n := by
    have := Nat.two_pow_pos n
    omega
  exact Nat.and_two_pow_sub_one_of_lt_two_pow h2
/-- the rest of a night -/
theorem yd_rest {f a : Nat} (hf : f < 256) (h : a &&& f = a) : f &&& (a ^^^ 4294967295) = f ^^^ a := by
  apply yd_ext
  intro i
  rw [Nat.testBit_and, Nat.testBit_xor, yd_tb h]
  by_cases hi : i < 32
  · have : Nat.testBit 4294967295 i = true := by
      rw [show (4294967295 : Nat) = 2 ^ 32 - 1 by decide, Nat.testBit_two_pow_sub_one]
      simpa using hi
    rw [this]
    cases a.testBit i <;> cases f.testBit i <;> rfl
  · have : f.testBit i = false := Nat.testBit_lt_two_pow (Nat.lt_of_lt_of_le hf (Nat.le_trans (by decide : 256 ≤ 2 ^ 32) (Nat.pow_le_pow_right (by decide) (by omega))))
    rw [this]
    rfl
/-- own, and what is left -/
theorem yd_lor {t a : Nat} (h : a &&& t = a) : (t ^^^ a) ||| a = t := by
  apply yd_ext
  intro i
  have g := yd_ss.mp h i
  rw [Nat.testBit_or, yd_tb h]
  revert g
  cases a.testBit i <;> cases t.testBit i <;> simp
theorem yd_lor2 {f a l : Nat} (h : a &&& f = a) (hl : l &&& (f ^^^ a) = l) : a &&& (l ||| a) = a ∧ (l ||| a) ^^^ a = l ∧ (l ||| a) &&& f = l ||| a := by
  have g := yd_ss.mp h
  have gl := yd_ss.mp hl
  have k : ∀ i, l.testBit i = true → f.testBit i = true ∧ a.testBit i = false := fun i hi => by
    have := gl i hi
    rw [yd_tb h] at this
    simp only [Bool.and_eq_true, Bool.not_eq_true'] at this
    exact this
  have h1 : a &&& (l ||| a) = a := yd_ss.mpr (fun i hi => by rw [Nat.testBit_or, hi, Bool.or_true])
  refine ⟨h1, ?_, yd_ss.mpr (fun i hi => ?_)⟩
  · apply yd_ext
    intro i
    rw [yd_tb h1, Nat.testBit_or]
    have := k i
    revert this
    cases l.testBit i <;> cases a.testBit i <;> simp
  · rw [Nat.testBit_or, Bool.or_eq_true] at hi
    exact hi.elim (fun z => (k i z).1) (g i)
section YDK
variable {d r own : Nat} {I : Nat → Nat → Int32} {J : Nat → Nat → Int64} {R : Nat → Nat → Nat}
theorem yd_hbl (hr : r < 8) (ho : own < 256) (hb : ∀ h, h < 8 → 0 ≤ (I 115 (8 * r + h)).toInt ∧ (I 115 (8 * r + h)).toInt ≤ 999) : ∀ (m h : Nat) (acc : Int32), h + m = 8 → acc.toInt = yd_S (fun h => (I 115 (8 * r + h)).toInt) own h → ∃ v, qX8_hardBy_h5 (d + 1) (Int32.ofNat r) (Int32.ofNat own) acc (Int32.ofNat h) (I, J, R) = some (some (.int v), I, J, R) ∧ v.toInt = yd_S (fun h => (I 115 (8 * r + h)).toInt) own 8
  | 0, h, acc, hm, ha => by
    obtain rfl : h = 8 := by omega
    rw [qX8_hardBy_h5_eq, if_pos (by decide)]
    exact ⟨acc, rfl, ha⟩
  | m + 1, h, acc, hm, ha => by
    have hh : h < 8 := by omega
    have a1 : Int32.ofNat h + (1 : Int32) = Int32.ofNat (h + 1) := (Int32.ofNat_add h 1).symm
    have e1 := yd_8h8 r hr h hh
    have e2 : (((8 : Int32) * Int32.ofNat r) + Int32.ofNat h).toInt.toNat = 8 * r + h := by omega
    have htb := yd_tb8 own ho h hh
    have hs := yd_S_r (s := own) (n := h) (M := 999) (f := fun h => (I 115 (8 * r + h)).toInt) (fun i hi => hb i (by omega))
    obtain ⟨b1, b2⟩ := hb h hh
    have go : ∀ w0 : Int32, w0.toInt = (if own.testBit h = true then (I 115 (8 * r + h)).toInt else 0) → ∃ v, qX8_hardBy_h38 (d + 1) (Int32.ofNat r) (Int32.ofNat own) (Int32.ofNat h) w0 acc (I, J, R) = some (some (.int v), I, J, R) ∧ v.toInt = yd_S (fun h => (I 115 (8 * r + h)).toInt) own 8 := by
      intro w0 hw
      rw [qX8_hardBy_h38_eq, a1]
      have hw2 : 0 ≤ w0.toInt ∧ w0.toInt ≤ 999 := by
        rw [hw]
        split <;> omega
      refine yd_hbl hr ho hb m (h + 1) (acc + w0) (by omega) ?_
      rw [xt_add (by omega) (by omega), ha, hw]
      rfl
    have h8 : ¬ (8 : Int32) ≤ Int32.ofNat h := fun z => by
      have := (xr_le (a := 8) (by omega) (by omega)).mp z
      omega
    rw [qX8_hardBy_h5_eq, if_neg h8, qX8_has_eq]
    by_cases g : own.testBit h = true
    · rw [if_neg (fun z => z (htb.mpr g)), xb_I1, if_neg (by decide), e2, e1, if_pos (by omega)]
      exact go _ (by rw [if_pos g])
    · rw [if_pos (fun z => g (htb.mp z)), xb_I1, if_pos rfl]
      exact go 0 (by rw [if_neg g]; decide)
theorem yd_hb (hr : r < 8) (ho : own < 256) (hb : ∀ h, h < 8 → 0 ≤ (I 115 (8 * r + h)).toInt ∧ (I 115 (8 * r + h)).toInt ≤ 999) : ∃ v, xq_D xqP (d + 2) 224 [.ref 94, .int (Int32.ofNat r), .int (Int32.ofNat own)] (I, J, R) = some (some (.int v), I, J, R) ∧ v.toInt = yd_S (fun h => (I 115 (8 * r + h)).toInt) own 8 := by
  rw [qX8_hardBy_eq]
  exact yd_hbl (d := d) (J := J) (R := R) hr ho hb 8 0 0 (by omega) (by show (0 : Int32).toInt = 0; decide)
theorem yd_can {mst : Nat} {cap : Int} (hr : r < 8) (ho : own < 256) (hm : mst < 256) (hb : ∀ h, h < 8 → 0 ≤ (I 115 (8 * r + h)).toInt ∧ (I 115 (8 * r + h)).toInt ≤ 999) (h96 : (I 96 r).toInt = cap) (h112 : I 112 r = Int32.ofNat mst) (h39 : I 94 39 = 1000000000) : xq_D xqP (d + 3) 196 [.ref 94, .int (Int32.ofNat r), .int (Int32.ofNat own)] (I, J, R) = some (some (.int (if (yd_pc own : Int) ≤ cap ∧ mst &&& own = mst then 1 else 0)), I, J, R) := by
  have b1 := xt_nat (n := r) (by omega)
  have b2 : (Int32.ofNat r).toInt.toNat = r := by omega
  have hp := xt_nat (n := yd_pc own) (by have := yd_pc8 own; omega)
  have hlt : ((I, J, R).1 96 r < Int32.ofNat (yd_pc own)) ↔ cap < (yd_pc own : Int) := by
    show I 96 r < _ ↔ _
    rw [xt_lt, hp, h96]
  have h112' : (I, J, R).1 112 r = Int32.ofNat mst := h112
  have h39' : (I, J, R).1 94 39 = 1000000000 := h39
  obtain ⟨v, v1, v2⟩ := yd_hb (d := d) (J := J) (R := R) hr ho hb
  have hs := yd_S_r (s := own) (n := 8) (M := 999) (f := fun h => (I 115 (8 * r + h)).toInt) (fun i hi => hb i hi)
  have hle : ¬ (1000000000 : Int32) < v := fun z => by
    have := xt_lt.mp z
    have e9 : (1000000000 : Int32).toInt = 1000000000 := by decide
    omega
  rw [qX8_canTake_eq, yc_bc, xb_I1, yd_bc0 own ho, b2, b1, if_pos (by omega)]
  by_cases g1 : cap < (yd_pc own : Int)
  · rw [if_pos (hlt.mpr g1), if_neg (fun z => by omega)]
  · rw [if_neg (fun z => g1 (hlt.mp z)), if_pos (by omega), h112']
    by_cases g2 : mst &&& own = mst
    · rw [if_neg (fun z => z ((yd_ss0 hm ho).mpr g2)), v1, xb_I1, h39', if_neg hle, if_pos ⟨by omega, g2⟩]
    · rw [if_pos (fun z => g2 ((yd_ss0 hm ho).mp z)), if_neg (fun z => g2 z.2)]
end YDK
