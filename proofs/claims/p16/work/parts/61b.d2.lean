/-! HELD ROTAS: how many hours, the first of them, sums over them -/
def yd_pc (a : Nat) : Nat := (if a.testBit 0 then 1 else 0) + (if a.testBit 1 then 1 else 0) + (if a.testBit 2 then 1 else 0) + (if a.testBit 3 then 1 else 0) + (if a.testBit 4 then 1 else 0) + (if a.testBit 5 then 1 else 0) + (if a.testBit 6 then 1 else 0) + (if a.testBit 7 then 1 else 0)
def yd_lo (a : Nat) : Nat := if a.testBit 0 then 0 else if a.testBit 1 then 1 else if a.testBit 2 then 2 else if a.testBit 3 then 3 else if a.testBit 4 then 4 else if a.testBit 5 then 5 else if a.testBit 6 then 6 else 7
theorem yd_bc0 : ∀ a : Nat, a < 256 → ybc (Int32.ofNat a) = Int32.ofNat (yd_pc a) := by decide +kernel
theorem yd_lo0 : ∀ a : Nat, a < 256 → 0 < a → ybc ((Int32.ofNat a &&& (-(Int32.ofNat a))) - 1) = Int32.ofNat (yd_lo a) := by decide +kernel
theorem yd_lo1 : ∀ a : Nat, a < 256 → 0 < a → yd_lo a < 8 ∧ a.testBit (yd_lo a) = true ∧ (a &&& (a - 1)) < a ∧ ∀ i, i < 8 → (a &&& (a - 1)).testBit i = (a.testBit i && i != yd_lo a) := by decide +kernel
theorem yd_full : ∀ n : Nat, n < 9 → ((1 : Int32) <<< (Int32.ofNat n &&& 31)) - 1 = Int32.ofNat (2 ^ n - 1) ∧ 2 ^ n - 1 < 256 := by decide +kernel
theorem yd_pc8 (a : Nat) : yd_pc a ≤ 8 := by
  unfold yd_pc
  split <;> split <;> split <;> split <;> split <;> split <;> split <;> split <;> omega
theorem yd_pc_le {a s : Nat} (h : a &&& s = a) : yd_pc a ≤ yd_pc s := by
  have g := yd_ss.mp h
  have k : ∀ i, (if a.testBit i then 1 else 0) ≤ (if s.testBit i then 1 else 0 : Nat) := by
    intro i
    have := g i
    revert this
    cases a.testBit i <;> cases s.testBit i <;> simp
  have k0 := k 0
  have k1 := k 1
  have k2 := k 2
  have k3 := k 3
  have k4 := k 4
  have k5 := k 5
  have k6 := k 6
  have k7 := k 7
  unfold yd_pc
  omega
/-- no hour beyond -/
theorem yd_ss0 {s m : Nat} (hs : s < 256) (hm : m < 256) : Int32.ofNat s &&& (Int32.ofNat m ^^^ (-1 : Int32)) = 0 ↔ s &&& m = s := by
  rw [yd_dif]
  have hb : ∀ i, (s &&& (m ^^^ 4294967295)).testBit i = (s.testBit i && !m.testBit i) := by
    intro i
    rw [Nat.testBit_and, Nat.testBit_xor]
    by_cases hi : i < 32
    · have : Nat.testBit 4294967295 i = true := by
        rw [show (4294967295 : Nat) = 2 ^ 32 - 1 by decide, Nat.testBit_two_pow_sub_one]
        simpa using hi
      rw [this]
      cases m.testBit i <;> rfl
    · have : s.testBit i = false := Nat.testBit_lt_two_pow (Nat.lt_of_lt_of_le hs (Nat.le_trans (by decide : 256 ≤ 2 ^ 32) (Nat.pow_le_pow_right (by decide) (by omega))))
      rw [this]
      rfl
  have hlt : s &&& (m ^^^ 4294967295) < 256 := Nat.lt_of_le_of_lt Nat.and_le_left hs
  constructor
  · intro h
    have h0 : s &&& (m ^^^ 4294967295) = 0 := by
      have := congrArg Int32.toInt h
      rw [xt_nat (by omega)] at this
      have e0 : (0 : Int32).toInt = 0 := by decide
      omega
    apply yd_ss.mpr
    intro i hi
    have := hb i
    rw [h0, Nat.zero_testBit, hi] at this
    revert this
    cases m.testBit i <;> simp
  · intro h
    have h0 : s &&& (m ^^^ 4294967295) = 0 := by
      apply yd_ext
      intro i
      rw [hb, Nat.zero_testBit]
      have := yd_ss.mp h i
      revert this
      cases s.testBit i <;> cases m.testBit i <;> simp
    rw [h0]
    rfl
/-- sums over the hours of a set -/
def yd_S (f : Nat → Int) (s : Nat) : Nat → Int
  | 0 => 0
  | n + 1 => yd_S f s n + if s.testBit n then f n else 0
theorem yd_S_cg {f : Nat → Int} {s s' : Nat} : ∀ {n : Nat}, (∀ i, i < n → s.testBit i = s'.testBit i) → yd_S f s n = yd_S f s' n
  | 0, _ => rfl
  | n + 1, h => by
    show yd_S f s n + _ = yd_S f s' n + _
    rw [yd_S_cg (n := n) (fun i hi => h i (by omega)), h n (by omega)]
theorem yd_S_fcg {f g : Nat → Int} {s : Nat} : ∀ {n : Nat}, (∀ i, i < n → f i = g i) → yd_S f s n = yd_S g s n
  | 0, _ => rfl
  | n + 1, h => by
    show yd_S f s n + _ = yd_S g s n + _
    rw [yd_S_fcg (n := n) (fun i hi => h i (by omega)), h n (by omega)]
theorem yd_S_lo {f : Nat → Int} {s s' l : Nat} : ∀ {n : Nat}, l < n → s.testBit l = true → (∀ i, i < n → s'.testBit i = (s.testBit i && i != l)) → yd_S f s n = yd_S f s' n + f l
  | 0, h, _, _ => absurd h (Nat.not_lt_zero l)
  | n + 1, h, h1, h2 => by
    show yd_S f s n + _ = yd_S f s' n + _ + f l
    by_cases e : l = n
    · subst e
      have a1 : yd_S f s l = yd_S f s' l := yd_S_cg (fun i hi => by
        have : (i != l) = true := by
          rw [bne_iff_ne]
          omega
        rw [h2 i (by omega), this, Bool.and_true])
      have a2 : s'.testBit l = false := by
        rw [h2 l (by omega)]
        simp
      rw [a1, h1, a2]
      simp
    · have a2 : s'.testBit n = s.testBit n := by
        have : (n != l) = true := by
          rw [bne_iff_ne]
          omega
        rw [h2 n (by omega), this, Bool.and_true]
      rw [yd_S_lo (n := n) (by omega) h1 (fun i hi => h2 i (by omega)), a2]
      omega
theorem yd_S_0 {f : Nat → Int} : ∀ {n : Nat}, yd_S f 0 n = 0
  | 0 => rfl
  | n + 1 => by
    show yd_S f 0 n + _ = _
    rw [yd_S_0, Nat.zero_testBit]
    rfl
theorem yd_S_r {f : Nat → Int} {s : Nat} {M : Int} : ∀ {n : Nat}, (∀ i, i < n → 0 ≤ f i ∧ f i ≤ M) → 0 ≤ yd_S f s n ∧ yd_S f s n ≤ (n : Int) * M
  | 0, _ => by
    show (0 : Int) ≤ 0 ∧ (0 : Int) ≤ ((0 : Nat) : Int) * M
    simp
  | n + 1, h => by
    have h1 := yd_S_r (s := s) (n := n) (M := M) (fun i hi => h i (by omega))
    obtain ⟨h2, h3⟩ := h n (by omega)
    show 0 ≤ yd_S f s n + _ ∧ yd_S f s n + _ ≤ _
    have e : (((n + 1 : Nat)) : Int) * M = (n : Int) * M + M := by
      rw [show (((n + 1 : Nat)) : Int) = (n : Int) + 1 by omega, Int.add_mul, Int.one_mul]
    rw [e]
    split <;> omega
theorem yd_S_sp {f : Nat → Int} {s a : Nat} (h : a &&& s = a) : ∀ {n : Nat}, yd_S f s n = yd_S f a n + yd_S f (s ^^^ a) n
  | 0 => rfl
  | n + 1 => by
    show yd_S f s n + _ = yd_S f a n + _ + (yd_S f (s ^^^ a) n + _)
    rw [yd_S_sp h (n := n), yd_tb h]
    have := yd_ss.mp h n
    revert this
    cases s.testBit n <;> cases a.testBit n <;> simp <;> omega
theorem yd_S_add {f g : Nat → Int} {s : Nat} : ∀ {n : Nat}, yd_S (fun i => f i + g i) s n = yd_S f s n + yd_S g s n
  | 0 => rfl
  | n + 1 => by
    show yd_S (fun i => f i + g i) s n + (if s.testBit n = true then f n + g n else 0) = yd_S f s n + _ + (yd_S g s n + _)
    rw [yd_S_add (n := n)]
    split <;> omega
theorem yd_S_mul {f : Nat → Int} {M : Int} {s : Nat} : ∀ {n : Nat}, yd_S (fun i => f i * M) s n = yd_S f s n * M
  | 0 => by
    show (0 : Int) = 0 * M
    simp
  | n + 1 => by
    show yd_S (fun i => f i * M) s n + _ = (yd_S f s n + _) * M
    rw [yd_S_mul (n := n), Int.add_mul]
    split
    · rfl
    · simp
/-- longs -/
theorem yl_add {x y : Int64} (h1 : -9223372036854775808 ≤ x.toInt + y.toInt) (h2 : x.toInt + y.toInt ≤ 9223372036854775807) : (x + y).toInt = x.toInt + y.toInt := by
  rw [Int64.toInt_add]
  exact Int.bmod_eq_of_le (by omega) (by omega)
theorem yl_eq {x y : Int64} : x = y ↔ x.toInt = y.toInt := Int64.toInt_inj.symm
theorem yl_cmp {x y : Int64} : ((lg_cmp x y).toInt = 1 ∧ y.toInt < x.toInt) ∨ ((lg_cmp x y).toInt = 0 ∧ x.toInt = y.toInt) ∨ ((lg_cmp x y).toInt = -1 ∧ x.toInt < y.toInt) := by
  have k1 : (1 : Int32).toInt = 1 := by decide
  have k2 : (-1 : Int32).toInt = -1 := by decide
  have k0 : (0 : Int32).toInt = 0 := by decide
  unfold lg_cmp
  by_cases c1 : x > y
  · rw [if_pos c1]; exact Or.inl ⟨k1, Int64.lt_iff_toInt_lt.mp c1⟩
  · rw [if_neg c1]
    by_cases c2 : x = y
    · rw [if_pos c2]; exact Or.inr (Or.inl ⟨k0, by rw [c2]⟩)
    · rw [if_neg c2]
      have n1 : ¬ y.toInt < x.toInt := fun h => c1 (Int64.lt_iff_toInt_lt.mpr h)
      have n2 : ¬ x.toInt = y.toInt := fun h => c2 (Int64.toInt_inj.mp h)
      exact Or.inr (Or.inr ⟨k2, by omega⟩)
