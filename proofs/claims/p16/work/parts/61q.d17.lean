/-! HELD ROTAS: the class's assignments and the reference's are the same -/
/-- each hour of a set has one rider of some -/
def yd_Bw (lo hi t : Nat) (o : Nat → Nat) : Prop := (∀ h, t.testBit h = true ↔ ∃ r, lo ≤ r ∧ r < hi ∧ (o r).testBit h = true) ∧ ∀ h r r', lo ≤ r → r < hi → lo ≤ r' → r' < hi → (o r).testBit h = true → (o r').testBit h = true → r = r'
theorem yd_Pr_Bw {c : Nat} {o : Nat → Nat} : ∀ {m t : Nat}, m ≤ c → (yd_Pr yd_tr c m t o ↔ yd_Bw (c - m) c t o)
  | 0, t, _ => by
    constructor
    · intro h
      exact yd_Pr_bit (Nat.zero_le _) h
    · intro h
      show t = 0
      apply yd_ext
      intro i
      rw [Nat.zero_testBit]
      have := (h.1 i)
      cases hb : t.testBit i with
      | false => rfl
      | true =>
        obtain ⟨r, h1, h2, -⟩ := this.mp hb
        omega
  | m + 1, t, hm => by
    constructor
    · intro h
      exact yd_Pr_bit hm h
    · intro h
      obtain ⟨h1, h2⟩ := h
      have hs : o (c - (m + 1)) &&& t = o (c - (m + 1)) := yd_ss.mpr (fun i hi => (h1 i).mpr ⟨_, Nat.le_refl _, by omega, hi⟩)
      refine ⟨trivial, hs, (yd_Pr_Bw (by omega)).mpr ⟨fun i => ?_, fun i r r' a1 a2 a3 a4 => h2 i r r' (by omega) a2 (by omega) a4⟩⟩
      rw [yd_tb hs, Bool.and_eq_true, Bool.not_eq_true', h1 i]
      constructor
      · intro z
        obtain ⟨⟨r, k1, k2, k3⟩, z2⟩ := z
        refine ⟨r, ?_, k2, k3⟩
        by_cases e : r = c - (m + 1)
        · rw [e, z2] at k3
          cases k3
        · omega
      · intro z
        obtain ⟨r, k1, k2, k3⟩ := z
        refine ⟨⟨r, by omega, k2, k3⟩, ?_⟩
        cases hb : (o (c - (m + 1))).testBit i with
        | false => rfl
        | true =>
          have := h2 i r (c - (m + 1)) (by omega) k2 (Nat.le_refl _) (by omega) k3 hb
          omega
theorem yd_Pt_iff {ok : Nat → Nat → Prop} {o : Nat → Nat} : ∀ {k t : Nat}, (yd_Pt ok k t o ↔ (∀ r, r < k → ok r (o r)) ∧ yd_Bw 0 k t o)
  | 0, t => by
    constructor
    · intro h
      have h : t = 0 := h
      subst h
      refine ⟨fun r hr => absurd hr (Nat.not_lt_zero r), fun h => ⟨fun z => (by rw [Nat.zero_testBit] at z; cases z), fun z => ?_⟩, fun h r r' h1 h2 => absurd h2 (Nat.not_lt_zero r)⟩
      obtain ⟨r, h1, h2, -⟩ := z
      omega
    · intro h
      show t = 0
      apply yd_ext
      intro i
      rw [Nat.zero_testBit]
      cases hb : t.testBit i with
      | false => rfl
      | true =>
        obtain ⟨r, h1, h2, -⟩ := (h.2.1 i).mp hb
        omega
  | k + 1, t => by
    have ih := fun t' => yd_Pt_iff (ok := ok) (o := o) (k := k) (t := t')
    constructor
    · intro h
      obtain ⟨h1, h2, h3⟩ := h
      obtain ⟨g1, g2, g3⟩ := (ih _).mp h3
      have hs := yd_ss.mp h2
      have off : ∀ i r, r < k → (o r).testBit i = true → (o k).testBit i = false := fun i r k1 k2 => by
        have := (g2 i).mpr ⟨r, Nat.zero_le _, k1, k2⟩
        rw [yd_tb h2] at this
        simp only [Bool.and_eq_true, Bool.not_eq_true'] at this
        exact this.2
      refine ⟨fun r hr => ?_, fun i => ⟨fun z => ?_, fun z => ?_⟩, fun i r r' a1 a2 a3 a4 a5 a6 => ?_⟩
      · by_cases e : r = k
        · rw [e]; exact h1
        · exact g1 r (by omega)
      · by_cases q : (o k).testBit i = true
        · exact ⟨k, Nat.zero_le _, by omega, q⟩
        · obtain ⟨r, k1, k2, k3⟩ := (g2 i).mp (by
            rw [yd_tb h2, z]
            revert q
            cases (o k).testBit i <;> simp)
          exact ⟨r, k1, by omega, k3⟩
      · obtain ⟨r, k1, k2, k3⟩ := z
        by_cases e : r = k
        · rw [e] at k3
          exact hs i k3
        · have := (g2 i).mpr ⟨r, k1, by omega, k3⟩
          rw [yd_tb h2] at this
          simp only [Bool.and_eq_true] at this
          exact this.1
      · by_cases e : r = k
        · by_cases e' : r' = k
          · rw [e, e']
          · have := off i r' (by omega) a6
            rw [e, this] at a5
            cases a5
        · by_cases e' : r' = k
          · have := off i r (by omega) a5
            rw [e', this] at a6
            cases a6
          · exact g3 i r r' a1 (by omega) a3 (by omega) a5 a6
    · intro h
      obtain ⟨h0, h1, h2⟩ := h
      have hs : o k &&& t = o k := yd_ss.mpr (fun i hi => (h1 i).mpr ⟨k, Nat.zero_le _, by omega, hi⟩)
      refine ⟨h0 k (by omega), hs, (ih _).mpr ⟨fun r hr => h0 r (by omega), fun i => ?_, fun i r r' a1 a2 a3 a4 => h2 i r r' a1 (by omega) a3 (by omega)⟩⟩
      rw [yd_tb hs, Bool.and_eq_true, Bool.not_eq_true', h1 i]
      constructor
      · intro z
        obtain ⟨⟨r, k1, k2, k3⟩, z2⟩ := z
        refine ⟨r, k1, ?_, k3⟩
        by_cases e : r = k
        · rw [e, z2] at k3
          cases k3
        · omega
      · intro z
        obtain ⟨r, k1, k2, k3⟩ := z
        refine ⟨⟨r, k1, by omega, k3⟩, ?_⟩
        cases hb : (o k).testBit i with
        | false => rfl
        | true =>
          have := h2 i r k k1 (by omega) (Nat.zero_le _) (by omega) k3 hb
          omega
/-- riders who may ride nothing -/
theorem yd_Bw_0 {c hi t : Nat} {o : Nat → Nat} (hc : c ≤ hi) (h0 : ∀ r, c ≤ r → r < hi → o r = 0) : yd_Bw 0 hi t o ↔ yd_Bw 0 c t o := by
  have g : ∀ r i, r < hi → (o r).testBit i = true → r < c := fun r i hr hb => by
    refine Decidable.byContradiction fun z => ?_
    rw [h0 r (by omega) hr, Nat.zero_testBit] at hb
    cases hb
  constructor
  · intro h
    refine ⟨fun i => (h.1 i).trans ⟨fun z => ?_, fun z => ?_⟩, fun i r r' a1 a2 a3 a4 => h.2 i r r' a1 (by omega) a3 (by omega)⟩
    · obtain ⟨r, k1, k2, k3⟩ := z
      exact ⟨r, k1, g r i k2 k3, k3⟩
    · obtain ⟨r, k1, k2, k3⟩ := z
      exact ⟨r, k1, by omega, k3⟩
  · intro h
    refine ⟨fun i => (h.1 i).trans ⟨fun z => ?_, fun z => ?_⟩, fun i r r' a1 a2 a3 a4 a5 a6 => h.2 i r r' a1 (g r i a2 a5) a3 (g r' i a4 a6) a5 a6⟩
    · obtain ⟨r, k1, k2, k3⟩ := z
      exact ⟨r, k1, by omega, k3⟩
    · obtain ⟨r, k1, k2, k3⟩ := z
      exact ⟨r, k1, g r i k2 k3, k3⟩
theorem yd_Bw_cg {hi t : Nat} {o o' : Nat → Nat} (h : ∀ r, r < hi → o' r = o r) (hb : yd_Bw 0 hi t o) : yd_Bw 0 hi t o' := by
  refine ⟨fun i => (hb.1 i).trans ⟨fun z => ?_, fun z => ?_⟩, fun i r r' a1 a2 a3 a4 a5 a6 => ?_⟩
  · obtain ⟨r, k1, k2, k3⟩ := z
    exact ⟨r, k1, k2, by rw [h r k2]; exact k3⟩
  · obtain ⟨r, k1, k2, k3⟩ := z
    exact ⟨r, k1, k2, by rw [← h r k2]; exact k3⟩
  · rw [h r a2] at a5
    rw [h r' a4] at a6
    exact hb.2 i r r' a1 a2 a3 a4 a5 a6
/-- sums -/
def yd_T (g : Nat → Int) : Nat → Int
  | 0 => 0
  | k + 1 => yd_T g k + g k
theorem yd_T_cg {g g' : Nat → Int} : ∀ {k : Nat}, (∀ r, r < k → g r = g' r) → yd_T g k = yd_T g' k
  | 0, _ => rfl
  | k + 1, h => by
    show yd_T g k + g k = yd_T g' k + g' k
    rw [yd_T_cg (fun r hr => h r (by omega)), h k (by omega)]
theorem yd_T_0 {g : Nat → Int} : ∀ {k : Nat}, (∀ r, r < k → g r = 0) → yd_T g k = 0
  | 0, _ => rfl
  | k + 1, h => by
    show yd_T g k + g k = 0
    rw [yd_T_0 (fun r hr => h r (by omega)), h k (by omega)]
    rfl
theorem yd_T_ext {g : Nat → Int} {c : Nat} : ∀ {k : Nat}, c ≤ k → (∀ r, c ≤ r → r < k → g r = 0) → yd_T g k = yd_T g c
  | 0, h, _ => by rw [show c = 0 by omega]
  | k + 1, h, h0 => by
    by_cases e : c = k + 1
    · rw [e]
    · show yd_T g k + g k = _
      rw [yd_T_ext (by omega) (fun r h1 h2 => h0 r h1 (by omega)), h0 k (by omega) (by omega)]
      omega
theorem yd_T_add {f g : Nat → Int} : ∀ {k : Nat}, yd_T (fun r => f r + g r) k = yd_T f k + yd_T g k
  | 0 => rfl
  | k + 1 => by
    show yd_T (fun r => f r + g r) k + (f k + g k) = yd_T f k + f k + (yd_T g k + g k)
    rw [yd_T_add]
    omega
theorem yd_T_mul {f : Nat → Int} {M : Int} : ∀ {k : Nat}, yd_T (fun r => f r * M) k = yd_T f k * M
  | 0 => by
    show (0 : Int) = 0 * M
    simp
  | k + 1 => by
    show yd_T (fun r => f r * M) k + f k * M = (yd_T f k + f k) * M
    rw [yd_T_mul, Int.add_mul]
theorem yd_T_sw {a : Nat → Nat → Int} {n : Nat} : ∀ {k : Nat}, yd_T (fun r => yd_T (fun h => a r h) n) k = yd_T (fun h => yd_T (fun r => a r h) k) n
  | 0 => (yd_T_0 (fun _ _ => rfl)).symm
  | k + 1 => by
    show yd_T (fun r => yd_T (fun h => a r h) n) k + yd_T (fun h => a k h) n = yd_T (fun h => yd_T (fun r => a r h) k + a k h) n
    rw [yd_T_sw, yd_T_add]
theorem yd_T_one {P : Nat → Prop} [DecidablePred P] {v : Nat → Int} {r0 : Nat} : ∀ {k : Nat}, r0 < k → P r0 → (∀ r, r < k → P r → r = r0) → yd_T (fun r => if P r then v r else 0) k = v r0
  | 0, h, _, _ => absurd h (Nat.not_lt_zero r0)
  | k + 1, h, h1, h2 => by
    show yd_T (fun r => if P r then v r else 0) k + (if P k then v k else 0) = v r0
    by_cases e : r0 = k
    · subst e
      rw [if_pos h1, yd_T_0 (fun r hr => if_neg (fun z => by have := h2 r (by omega) z; omega))]
      omega
    · rw [if_neg (fun z => e (h2 k (by omega) z).symm), yd_T_one (by omega) h1 (fun r hr z => h2 r (by omega) z)]
      omega
theorem yd_S_T {f : Nat → Int} {s : Nat} : ∀ {n : Nat}, yd_S f s n = yd_T (fun i => if s.testBit i = true then f i else 0) n
  | 0 => rfl
  | n + 1 => by
    show yd_S f s n + _ = yd_T _ n + _
    rw [yd_S_T]
theorem yd_Ws_T {w : Nat → Nat → Int} {o : Nat → Nat} : ∀ {k : Nat}, yd_Ws w k o = yd_T (fun r => w r (o r)) k
  | 0 => rfl
  | k + 1 => by
    show yd_Ws w k o + w k (o k) = yd_T (fun r => w r (o r)) k + w k (o k)
    rw [yd_Ws_T]
theorem yd_Sr_T {w : Nat → Nat → Int} {c : Nat} {o : Nat → Nat} : ∀ {m : Nat}, m ≤ c → yd_T (fun r => w r (o r)) (c - m) + yd_Sr w c m o = yd_T (fun r => w r (o r)) c
  | 0, _ => by
    show yd_T (fun r => w r (o r)) (c - 0) + 0 = _
    rw [Nat.sub_zero]
    omega
  | m + 1, hm => by
    have ih := yd_Sr_T (w := w) (o := o) (c := c) (m := m) (by omega)
    rw [show c - m = (c - (m + 1)) + 1 by omega] at ih
    have e : yd_T (fun r => w r (o r)) (c - (m + 1) + 1) = yd_T (fun r => w r (o r)) (c - (m + 1)) + w (c - (m + 1)) (o (c - (m + 1))) := rfl
    rw [e] at ih
    show yd_T (fun r => w r (o r)) (c - (m + 1)) + (w (c - (m + 1)) (o (c - (m + 1))) + yd_Sr w c m o) = _
    omega
theorem yd_Sr_c {w : Nat → Nat → Int} {c : Nat} {o : Nat → Nat} : yd_Sr w c c o = yd_T (fun r => w r (o r)) c := by
  have := yd_Sr_T (w := w) (o := o) (c := c) (m := c) (Nat.le_refl _)
  rw [Nat.sub_self] at this
  have e : yd_T (fun r => w r (o r)) 0 = 0 := rfl
  omega
