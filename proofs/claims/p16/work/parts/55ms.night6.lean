/-! A NIGHT: class and reference alike -/
theorem yn_1_T {c : Nat} {be il : Int32} {ro ca mo wi : Nat → Int32} {h : Nat} {s : yn_T} (g : ((0 ≤ (ro h).toInt ∧ (ro h).toInt < (c : Int)) ∧ yhb (ca (ro h).toInt.toNat) (Int32.ofNat h) ∧ ¬ yhb il (ro h)) ∧ s.2.2.1 (ro h).toInt.toNat < mo (ro h).toInt.toNat) : yn_1 c be il ro ca mo wi h s = (if ((0 ≤ s.2.2.2.toInt ∧ s.2.2.2.toInt < (c : Int)) ∧ (0 ≤ (ro h).toInt ∧ (ro h).toInt < (c : Int)) ∧ ¬ s.2.2.2 = ro h) ∧ be < yab (wi s.2.2.2.toInt.toNat - wi (ro h).toInt.toNat) then s.1 ||| ybit h else s.1, s.2.1 ||| ybit h, xr_up s.2.2.1 (ro h).toInt.toNat (s.2.2.1 (ro h).toInt.toNat + 1), ro h) := by
  unfold yn_1
  split
  · rfl
  · rename_i z _
    exact absurd g z
theorem yn_1_F {c : Nat} {be il : Int32} {ro ca mo wi : Nat → Int32} {h : Nat} {s : yn_T} (g : ¬ (((0 ≤ (ro h).toInt ∧ (ro h).toInt < (c : Int)) ∧ yhb (ca (ro h).toInt.toNat) (Int32.ofNat h) ∧ ¬ yhb il (ro h)) ∧ s.2.2.1 (ro h).toInt.toNat < mo (ro h).toInt.toNat)) : yn_1 c be il ro ca mo wi h s = (s.1 ||| ybit h, s.2.1, s.2.2.1, -1) := by
  unfold yn_1
  split
  · rename_i z _
    exact absurd z g
  · rfl
theorem yn_eq {c : Nat} {be il : Int32} {ro ca mo wi ca' mo' wi' il' : Nat → Int32} (hc : c ≤ 8) (hro : ∀ h, h < 8 → -1 ≤ (ro h).toInt ∧ (ro h).toInt < (c : Int)) (hr : ∀ r, r < c → ca r = ca' r ∧ mo r = mo' r ∧ wi r = wi' r ∧ (yhb il (Int32.ofNat r) ↔ ¬ il' r = 0)) : ∀ n, n ≤ 8 → yn_n c be il ro ca mo wi n = yn_rn be ro ca' mo' wi' il' n ∧ (-1 ≤ (yn_n c be il ro ca mo wi n).2.2.2.toInt ∧ (yn_n c be il ro ca mo wi n).2.2.2.toInt < (c : Int)) := by
  have em : ((-1 : Int32)).toInt = -1 := by decide
  intro n
  induction n with
  | zero =>
    intro _
    refine ⟨rfl, ?_, ?_⟩
    · show -1 ≤ ((-1 : Int32)).toInt
      omega
    · show ((-1 : Int32)).toInt < (c : Int)
      omega
  | succ h ih =>
    intro hn
    obtain ⟨ih1, ih2, ih3⟩ := ih (by omega)
    rw [yn_n, yn_rn, ← ih1]
    generalize yn_n c be il ro ca mo wi h = s at ih2 ih3 ⊢
    obtain ⟨hr1, hr2⟩ := hro h (by omega)
    by_cases hz : ro h = -1
    · have hz1 : (ro h).toInt = -1 := by rw [hz]; exact em
      rw [yn_1_F (fun z => by have := z.1.1.1; omega), yn_r1_F (fun z => z.1 hz)]
      exact ⟨rfl, by show -1 ≤ ((-1 : Int32)).toInt; omega, by show ((-1 : Int32)).toInt < (c : Int); omega⟩
    · have hne : ¬ (ro h).toInt = -1 := fun z => hz (by rw [xt_eq, z]; exact em.symm)
      have ero : ro h = Int32.ofNat (ro h).toInt.toNat := by
        rw [xt_eq, xt_nat (by omega)]
        omega
      obtain ⟨k1, k2, k3, k4⟩ := hr (ro h).toInt.toNat (by omega)
      rw [← ero] at k4
      by_cases hy : ¬ ro h = -1 ∧ yhb (ca' (ro h).toInt.toNat) (Int32.ofNat h) ∧ il' (ro h).toInt.toNat = 0 ∧ s.2.2.1 (ro h).toInt.toNat < mo' (ro h).toInt.toNat
      · rw [yn_r1_T hy, yn_1_T ⟨⟨⟨by omega, hr2⟩, by rw [k1]; exact hy.2.1, fun z => k4.mp z hy.2.2.1⟩, by rw [k2]; exact hy.2.2.2⟩]
        refine ⟨?_, hr1, hr2⟩
        by_cases hl : s.2.2.2 = -1
        · have hl1 : s.2.2.2.toInt = -1 := by rw [hl]; exact em
          rw [if_neg (fun z => by have := z.1.1.1; omega), if_neg (fun z => z.1 hl)]
        · have hl1 : ¬ s.2.2.2.toInt = -1 := fun z => hl (by rw [xt_eq, z]; exact em.symm)
          obtain ⟨-, -, k5, -⟩ := hr s.2.2.2.toInt.toNat (by omega)
          rw [k5, k3]
          by_cases hw : ¬ s.2.2.2 = -1 ∧ ¬ s.2.2.2 = ro h ∧ be < yab (wi' s.2.2.2.toInt.toNat - wi' (ro h).toInt.toNat)
          · rw [if_pos hw, if_pos ⟨⟨⟨by omega, ih3⟩, ⟨by omega, hr2⟩, hw.2.1⟩, hw.2.2⟩]
          · rw [if_neg hw, if_neg (fun z => hw ⟨hl, z.1.2.2, z.2⟩)]
      · rw [yn_r1_F hy, yn_1_F (fun z => hy ⟨hz, by rw [← k1]; exact z.1.2.1, Decidable.byContradiction fun w => z.1.2.2 (k4.mpr w), by rw [← k2]; exact z.2⟩)]
        exact ⟨rfl, by show -1 ≤ ((-1 : Int32)).toInt; omega, by show ((-1 : Int32)).toInt < (c : Int); omega⟩
theorem yhb_bit {x : Int32} {k : Nat} (hk : k < 8) : yhb x (Int32.ofNat k) ↔ x.toBitVec.getLsbD k = true := by
  have key : ∀ (y : BitVec 32) (s : Nat), s < 8 → ((y.sshiftRight s) &&& 1#32 = 1#32 ↔ y.getLsbD s = true) := by
    intro y s hs
    constructor
    · intro h
      have h1 : ((y.sshiftRight s) &&& 1#32).getLsbD 0 = (1#32).getLsbD 0 := by rw [h]
      rw [BitVec.getLsbD_and, BitVec.getLsbD_sshiftRight] at h1
      simpa [show s < 32 by omega] using h1
    · intro h
      apply BitVec.eq_of_getLsbD_eq
      intro i hi
      rw [BitVec.getLsbD_and, BitVec.getLsbD_sshiftRight]
      by_cases h0 : i = 0
      · subst h0
        simp [h, show s < 32 by omega]
      · have : (1#32).getLsbD i = false := by
          rw [BitVec.getLsbD_one]
          simp [h0]
        rw [this, Bool.and_false]
  unfold yhb
  rw [← Int32.toBitVec_inj]
  match k, hk with
  | 0, _ => exact key x.toBitVec 0 (by decide)
  | 1, _ => exact key x.toBitVec 1 (by decide)
  | 2, _ => exact key x.toBitVec 2 (by decide)
  | 3, _ => exact key x.toBitVec 3 (by decide)
  | 4, _ => exact key x.toBitVec 4 (by decide)
  | 5, _ => exact key x.toBitVec 5 (by decide)
  | 6, _ => exact key x.toBitVec 6 (by decide)
  | 7, _ => exact key x.toBitVec 7 (by decide)
