/-! HELD ROTAS: sets of hours as masks -/
theorem yd_prev (own : Nat) : ∀ p x : Nat, own &&& p = own → x &&& p = x → x < own → x ≤ (own - 1) &&& p := by
  induction own using Nat.strongRecOn with
  | _ own ih =>
    intro p x h1 h2 h3
    have d1 : own / 2 &&& p / 2 = own / 2 := by rw [← Nat.and_div_two, h1]
    have d2 : x / 2 &&& p / 2 = x / 2 := by rw [← Nat.and_div_two, h2]
    have d3 : ((own - 1) &&& p) / 2 = (own - 1) / 2 &&& p / 2 := Nat.and_div_two
    have m3 : ((own - 1) &&& p) % 2 = 1 ↔ (own - 1) % 2 = 1 ∧ p % 2 = 1 := Nat.and_mod_two_eq_one
    have m2 : (x &&& p) % 2 = 1 ↔ x % 2 = 1 ∧ p % 2 = 1 := Nat.and_mod_two_eq_one
    rw [h2] at m2
    by_cases ho : own % 2 = 1
    · have e1 : (own - 1) / 2 = own / 2 := by omega
      rw [e1, d1] at d3
      omega
    · have e1 : (own - 1) / 2 = own / 2 - 1 := by omega
      rw [e1] at d3
      have hx : x / 2 < own / 2 := by omega
      have := ih (own / 2) (by omega) (p / 2) (x / 2) d1 d2 hx
      omega
theorem yd_and {a b : Nat} : Int32.ofNat a &&& Int32.ofNat b = Int32.ofNat (a &&& b) := by
  apply Int32.toBitVec_inj.mp
  rw [Int32.toBitVec_and]
  show BitVec.ofNat 32 a &&& BitVec.ofNat 32 b = BitVec.ofNat 32 (a &&& b)
  apply BitVec.eq_of_getLsbD_eq
  intro i hi
  simp [BitVec.getLsbD_ofNat, hi]
theorem yd_xor {a b : Nat} : Int32.ofNat a ^^^ Int32.ofNat b = Int32.ofNat (a ^^^ b) := by
  apply Int32.toBitVec_inj.mp
  rw [Int32.toBitVec_xor]
  show BitVec.ofNat 32 a ^^^ BitVec.ofNat 32 b = BitVec.ofNat 32 (a ^^^ b)
  apply BitVec.eq_of_getLsbD_eq
  intro i hi
  simp [BitVec.getLsbD_ofNat, hi]
theorem yd_or {a b : Nat} : Int32.ofNat a ||| Int32.ofNat b = Int32.ofNat (a ||| b) := by
  apply Int32.toBitVec_inj.mp
  rw [Int32.toBitVec_or]
  show BitVec.ofNat 32 a ||| BitVec.ofNat 32 b = BitVec.ofNat 32 (a ||| b)
  apply BitVec.eq_of_getLsbD_eq
  intro i hi
  simp [BitVec.getLsbD_ofNat, hi]
/-- without -/
theorem yd_dif {a b : Nat} : Int32.ofNat a &&& (Int32.ofNat b ^^^ (-1 : Int32)) = Int32.ofNat (a &&& (b ^^^ 4294967295)) := by
  have e : (-1 : Int32) = Int32.ofNat 4294967295 := by decide
  rw [e, yd_xor, yd_and]
theorem yd_sub1 {a : Nat} (h : 0 < a) : Int32.ofNat a - 1 = Int32.ofNat (a - 1) := by
  obtain ⟨m, rfl⟩ : ∃ m, a = m + 1 := ⟨a - 1, by omega⟩
  have : Int32.ofNat (m + 1) = Int32.ofNat m + 1 := Int32.ofNat_add m 1
  rw [this]
  have e : Int32.ofNat m + 1 - 1 = Int32.ofNat m := by grind
  rw [e]
  rfl
theorem yd_add {a b : Nat} : Int32.ofNat a + Int32.ofNat b = Int32.ofNat (a + b) := (Int32.ofNat_add a b).symm
theorem yd_tb {s a i : Nat} (h : a &&& s = a) : (s ^^^ a).testBit i = (s.testBit i && !a.testBit i) := by
  have := congrArg (fun x => x.testBit i) h
  simp only [Nat.testBit_and] at this
  rw [Nat.testBit_xor]
  revert this
  cases s.testBit i <;> cases a.testBit i <;> simp
theorem yd_ext {a b : Nat} (h : ∀ i, a.testBit i = b.testBit i) : a = b := Nat.eq_of_testBit_eq h
theorem yd_ss {a s : Nat} : a &&& s = a ↔ ∀ i, a.testBit i = true → s.testBit i = true := by
  constructor
  · intro h i hi
    have := congrArg (fun x => x.testBit i) h
    simp only [Nat.testBit_and] at this
    rw [hi] at this
    simpa using this
  · intro h
    apply yd_ext
    intro i
    rw [Nat.testBit_and]
    have := h i
    revert this
    cases a.testBit i <;> simp
theorem yd_le {a s : Nat} (h : a &&& s = a) : a ≤ s := by
  rw [← h]
  exact Nat.and_le_right
/-- own is of s, other of the rest: the other way round -/
theorem yd_swap {s a b : Nat} (h1 : a &&& s = a) (h2 : b &&& (s ^^^ a) = b) : b &&& s = b ∧ a &&& (s ^^^ b) = a ∧ s ^^^ a ^^^ b = s ^^^ b ^^^ a := by
  have g2 := yd_ss.mp h2
  have g1 := yd_ss.mp h1
  have hb : b &&& s = b := yd_ss.mpr (fun i hi => by
    have := g2 i hi
    rw [yd_tb h1] at this
    simp only [Bool.and_eq_true] at this
    exact this.1)
  refine ⟨hb, yd_ss.mpr (fun i hi => ?_), ?_⟩
  · rw [yd_tb hb, g1 i hi]
    cases hbi : b.testBit i with
    | false => rfl
    | true =>
      have := g2 i hbi
      rw [yd_tb h1, hi] at this
      simp at this
  · apply yd_ext
    intro i
    rw [Nat.testBit_xor, Nat.testBit_xor, Nat.testBit_xor, Nat.testBit_xor]
    cases s.testBit i <;> cases a.testBit i <;> cases b.testBit i <;> rfl
theorem yd_x0 {s a : Nat} (h : a &&& s = a) (h2 : s ^^^ a = 0) : s = a := by
  apply yd_ext
  intro i
  have := yd_tb (i := i) h
  rw [h2, Nat.zero_testBit] at this
  have g := yd_ss.mp h i
  revert this g
  cases s.testBit i <;> cases a.testBit i <;> simp
theorem yd_lt {a b n : Nat} (h : a &&& b = a) (hb : b < n) : a < n := Nat.lt_of_le_of_lt (yd_le h) hb
theorem yd_xlt {s a : Nat} (h : a &&& s = a) : s ^^^ a ≤ s := by
  have h2 : (s ^^^ a) &&& s = s ^^^ a := yd_ss.mpr (fun i hi => by
    rw [yd_tb h] at hi
    simp only [Bool.and_eq_true] at hi
    exact hi.1)
  exact yd_le h2
