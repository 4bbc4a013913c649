/-! A NIGHT: who is sore, alike -/
theorem yhb_or {x y : Int32} {k : Nat} (hk : k < 8) : yhb (x ||| y) (Int32.ofNat k) ↔ yhb x (Int32.ofNat k) ∨ yhb y (Int32.ofNat k) := by
  rw [yhb_bit hk, yhb_bit hk, yhb_bit hk, Int32.toBitVec_or, BitVec.getLsbD_or, Bool.or_eq_true]
theorem yhb_ybit {h k : Nat} (hh : h < 8) (hk : k < 8) : yhb (ybit h) (Int32.ofNat k) ↔ k = h := by
  unfold yhb ybit
  rcases (show h = 0 ∨ h = 1 ∨ h = 2 ∨ h = 3 ∨ h = 4 ∨ h = 5 ∨ h = 6 ∨ h = 7 by omega) with rfl | rfl | rfl | rfl | rfl | rfl | rfl | rfl <;>
  rcases (show k = 0 ∨ k = 1 ∨ k = 2 ∨ k = 3 ∨ k = 4 ∨ k = 5 ∨ k = 6 ∨ k = 7 by omega) with rfl | rfl | rfl | rfl | rfl | rfl | rfl | rfl <;> decide
theorem yhb_0 {k : Nat} (hk : k < 8) : ¬ yhb 0 (Int32.ofNat k) := by
  unfold yhb
  rcases (show k = 0 ∨ k = 1 ∨ k = 2 ∨ k = 3 ∨ k = 4 ∨ k = 5 ∨ k = 6 ∨ k = 7 by omega) with rfl | rfl | rfl | rfl | rfl | rfl | rfl | rfl <;> decide
/-- somebody rides at h -/
def yrd (be : Int32) (ro ca mo wi il : Nat → Int32) (h : Nat) : Prop := ¬ ro h = -1 ∧ yhb (ca (ro h).toInt.toNat) (Int32.ofNat h) ∧ il (ro h).toInt.toNat = 0 ∧ (yn_rn be ro ca mo wi il h).2.2.1 (ro h).toInt.toNat < mo (ro h).toInt.toNat
theorem yrd_bits {be : Int32} {ro ca mo wi il : Nat → Int32} : ∀ m, m ≤ 8 → ∀ k, k < 8 → (yhb (yn_rn be ro ca mo wi il m).2.1 (Int32.ofNat k) ↔ k < m ∧ yrd be ro ca mo wi il k) := by
  intro m
  induction m with
  | zero =>
    intro _ k hk
    exact ⟨fun z => absurd z (yhb_0 hk), fun z => absurd z.1 (Nat.not_lt_zero _)⟩
  | succ m ih =>
    intro hm k hk
    have ih := ih (by omega) k hk
    rw [yn_rn]
    by_cases hy : yrd be ro ca mo wi il m
    · rw [yn_r1_T hy]
      show yhb ((yn_rn be ro ca mo wi il m).2.1 ||| ybit m) (Int32.ofNat k) ↔ _
      rw [yhb_or hk, ih, yhb_ybit (by omega) hk]
      constructor
      · rintro (⟨a, b⟩ | rfl)
        · exact ⟨by omega, b⟩
        · exact ⟨by omega, hy⟩
      · rintro ⟨a, b⟩
        by_cases h : k = m
        · exact Or.inr h
        · exact Or.inl ⟨by omega, b⟩
    · rw [yn_r1_F hy]
      show yhb (yn_rn be ro ca mo wi il m).2.1 (Int32.ofNat k) ↔ _
      rw [ih]
      constructor
      · rintro ⟨a, b⟩
        exact ⟨by omega, b⟩
      · rintro ⟨a, b⟩
        refine ⟨?_, b⟩
        refine Decidable.byContradiction fun z => hy ?_
        have : k = m := by omega
        rw [← this]
        exact b
theorem yn_m_eq {c : Nat} {be rb : Int32} {ro ca mo wi il : Nat → Int32} {Hd : Nat → Nat → Int32} (hro : ∀ h, h < 8 → -1 ≤ (ro h).toInt ∧ (ro h).toInt < (c : Int)) : ∀ m, m ≤ 8 → (∀ k, k < m → (yhb rb (Int32.ofNat k) ↔ yrd be ro ca mo wi il k)) → yn_m c rb ro Hd m = yr_m be ro ca mo wi il Hd m := by
  have em : ((-1 : Int32)).toInt = -1 := by decide
  intro m
  induction m with
  | zero =>
    intro _ _
    rfl
  | succ m ih =>
    intro hm hb
    have ih := ih (by omega) (fun k hk => hb k (by omega))
    have hk := hb m (by omega)
    obtain ⟨h1, h2⟩ := hro m (by omega)
    by_cases hy : yrd be ro ca mo wi il m
    · have hne : ¬ (ro m).toInt = -1 := fun z => hy.1 (by rw [xt_eq, z]; exact em.symm)
      rw [yr_m_T hy, yn_m_T ⟨hk.mpr hy, by omega, h2⟩, ih]
    · rw [yr_m_F hy, yn_m_F (fun z => hy (hk.mp z.1)), ih]
