/-! HELD ROTAS: partitions of the hours; an hour that is fixed -/
def yd_tr (_ _ : Nat) : Prop := True
theorem yd_Pr_iff {ok : Nat → Nat → Prop} {c : Nat} {o : Nat → Nat} : ∀ {m t : Nat}, m ≤ c → (yd_Pr ok c m t o ↔ (∀ r, c - m ≤ r → r < c → ok r (o r)) ∧ yd_Pr yd_tr c m t o)
  | 0, t, _ => ⟨fun h => ⟨fun r h1 h2 => by omega, h⟩, fun h => h.2⟩
  | m + 1, t, hm => by
    have ih := fun t' => yd_Pr_iff (ok := ok) (c := c) (o := o) (m := m) (t := t') (by omega)
    constructor
    · intro h
      obtain ⟨h1, h2, h3⟩ := h
      obtain ⟨g1, g2⟩ := (ih _).mp h3
      refine ⟨fun r hr hr2 => ?_, trivial, h2, g2⟩
      by_cases e : r = c - (m + 1)
      · rw [e]; exact h1
      · exact g1 r (by omega) hr2
    · intro h
      obtain ⟨h1, -, h2, h3⟩ := h
      exact ⟨h1 _ (Nat.le_refl _) (by omega), h2, (ih _).mpr ⟨fun r hr hr2 => h1 r (by omega) hr2, h3⟩⟩
/-- each hour has one rider -/
theorem yd_Pr_bit {ok : Nat → Nat → Prop} {c : Nat} {o : Nat → Nat} : ∀ {m t : Nat}, m ≤ c → yd_Pr ok c m t o → (∀ h, t.testBit h = true ↔ ∃ r, c - m ≤ r ∧ r < c ∧ (o r).testBit h = true) ∧ ∀ h r r', c - m ≤ r → r < c → c - m ≤ r' → r' < c → (o r).testBit h = true → (o r').testBit h = true → r = r'
  | 0, t, _, h => by
    have h : t = 0 := h
    subst h
    refine ⟨fun h => ⟨fun z => (by rw [Nat.zero_testBit] at z; cases z), fun z => ?_⟩, fun h r r' h1 h2 => by omega⟩
    obtain ⟨r, h1, h2, -⟩ := z
    omega
  | m + 1, t, hm, hp => by
    obtain ⟨h1, h2, h3⟩ := hp
    obtain ⟨g1, g2⟩ := yd_Pr_bit (m := m) (by omega) h3
    have hs := yd_ss.mp h2
    refine ⟨fun h => ⟨fun z => ?_, fun z => ?_⟩, fun h r r' a1 a2 a3 a4 a5 a6 => ?_⟩
    · by_cases q : (o (c - (m + 1))).testBit h = true
      · exact ⟨_, Nat.le_refl _, by omega, q⟩
      · obtain ⟨r, k1, k2, k3⟩ := (g1 h).mp (by
          rw [yd_tb h2, z]
          revert q
          cases (o (c - (m + 1))).testBit h <;> simp)
        exact ⟨r, by omega, k2, k3⟩
    · obtain ⟨r, k1, k2, k3⟩ := z
      by_cases e : r = c - (m + 1)
      · rw [e] at k3
        exact hs h k3
      · have := (g1 h).mpr ⟨r, by omega, k2, k3⟩
        rw [yd_tb h2] at this
        simp only [Bool.and_eq_true] at this
        exact this.1
    · have off : ∀ r, c - m ≤ r → r < c → (o r).testBit h = true → (o (c - (m + 1))).testBit h = false := fun r k1 k2 k3 => by
        have := (g1 h).mpr ⟨r, k1, k2, k3⟩
        rw [yd_tb h2] at this
        simp only [Bool.and_eq_true, Bool.not_eq_true'] at this
        exact this.2
      by_cases e : r = c - (m + 1)
      · by_cases e' : r' = c - (m + 1)
        · rw [e, e']
        · have := off r' (by omega) a4 a6
          rw [e] at a5
          rw [this] at a5
          cases a5
      · by_cases e' : r' = c - (m + 1)
        · have := off r (by omega) a2 a5
          rw [e'] at a6
          rw [this] at a6
          cases a6
        · exact g2 h r r' (by omega) a2 (by omega) a4 a5 a6
/-- without an hour -/
def yd_off (m h : Nat) : Nat := m &&& (2 ^ h ^^^ 4294967295)
theorem yd_off_tb {m h : Nat} (hm : m < 256) (hh : h < 8) (i : Nat) : (yd_off m h).testBit i = (m.testBit i && i != h) := by
  unfold yd_off
  rw [Nat.testBit_and, Nat.testBit_xor, Nat.testBit_two_pow]
  by_cases hi : i < 32
  · have : Nat.testBit 4294967295 i = true := by
      rw [show (4294967295 : Nat) = 2 ^ 32 - 1 by decide, Nat.testBit_two_pow_sub_one]
      simpa using hi
    rw [this]
    by_cases e : i = h
    · subst e
      simp
    · have e' : ¬ h = i := fun z => e z.symm
      simp [e, e']
  · have : m.testBit i = false := Nat.testBit_lt_two_pow (Nat.lt_of_lt_of_le hm (Nat.le_trans (by decide : 256 ≤ 2 ^ 32) (Nat.pow_le_pow_right (by decide) (by omega))))
    rw [this]
    rfl
theorem yd_p2 : ∀ h : Nat, h < 8 → (1 : Int32) <<< (Int32.ofNat h &&& 31) = Int32.ofNat (2 ^ h) ∧ 2 ^ h < 256 := by decide +kernel
/-- who may hold the night: what each may ride, must ride, how many -/
def yd_A (c full : Nat) (may mst : Nat → Nat) (cap : Nat → Int) (o : Nat → Nat) : Prop := yd_Pr (fun r x => x &&& may r = x ∧ ((yd_pc x : Int) ≤ cap r ∧ mst r &&& x = mst r)) c c full o
def yd_fm (may : Nat → Nat) (h v r : Nat) : Nat := if r = v then may r else yd_off (may r) h
def yd_fs (mst : Nat → Nat) (h v r : Nat) : Nat := if r = v then mst r ||| 2 ^ h else mst r
theorem yd_A_fix {c full : Nat} {may mst : Nat → Nat} {cap : Nat → Int} {h v : Nat} {o : Nat → Nat} (hh : h < 8) (hv : v < c) (hm : ∀ r, r < c → may r < 256) : yd_A c full (yd_fm may h v) (yd_fs mst h v) cap o ↔ yd_A c full may mst cap o ∧ (o v).testBit h = true := by
  unfold yd_A
  rw [yd_Pr_iff (Nat.le_refl _), yd_Pr_iff (Nat.le_refl _) (ok := fun r x => x &&& may r = x ∧ ((yd_pc x : Int) ≤ cap r ∧ mst r &&& x = mst r))]
  constructor
  · intro z
    obtain ⟨z1, z2⟩ := z
    refine ⟨⟨fun r hr hr2 => ?_, z2⟩, ?_⟩
    · obtain ⟨g1, g2, g3⟩ := z1 r hr hr2
      refine ⟨yd_ss.mpr (fun i hi => ?_), g2, yd_ss.mpr (fun i hi => ?_)⟩
      · have := yd_ss.mp g1 i hi
        unfold yd_fm at this
        split at this
        · exact this
        · rw [yd_off_tb (hm r hr2) hh] at this
          simp only [Bool.and_eq_true] at this
          exact this.1
      · refine yd_ss.mp g3 i ?_
        unfold yd_fs
        split
        · rw [Nat.testBit_or, hi]
          rfl
        · exact hi
    · obtain ⟨g1, g2, g3⟩ := z1 v (by omega) hv
      refine yd_ss.mp g3 h ?_
      unfold yd_fs
      rw [if_pos rfl, Nat.testBit_or, Nat.testBit_two_pow_self, Bool.or_true]
  · intro z
    obtain ⟨⟨z1, z2⟩, z3⟩ := z
    have hu := (yd_Pr_bit (Nat.le_refl _) z2).2
    refine ⟨fun r hr hr2 => ?_, z2⟩
    obtain ⟨g1, g2, g3⟩ := z1 r hr hr2
    refine ⟨yd_ss.mpr (fun i hi => ?_), g2, yd_ss.mpr (fun i hi => ?_)⟩
    · have := yd_ss.mp g1 i hi
      unfold yd_fm
      by_cases e : r = v
      · rw [if_pos e]
        exact this
      · rw [if_neg e, yd_off_tb (hm r hr2) hh, this, Bool.true_and, bne_iff_ne]
        intro q
        rw [q] at hi
        exact e (hu h r v (by omega) hr2 (by omega) hv hi z3)
    · unfold yd_fs at hi
      by_cases e : r = v
      · rw [if_pos e, Nat.testBit_or, Bool.or_eq_true] at hi
        rcases hi with q | q
        · exact yd_ss.mp g3 i q
        · rw [Nat.testBit_two_pow] at q
          have : h = i := by simpa using q
          rw [← this, e]
          exact z3
      · rw [if_neg e] at hi
        exact yd_ss.mp g3 i hi
