/-! what solve() finds is a rota -/
def zcn (P : Nat → Bool) : Nat → Nat → Nat
  | _, 0 => 0
  | h, k + 1 => (P h).toNat + zcn P (h + 1) k
theorem zcn_mono {P Q : Nat → Bool} : ∀ {k k' h : Nat}, k ≤ k' → (∀ i, h ≤ i → i < h + k → P i = true → Q i = true) → zcn P h k ≤ zcn Q h k'
  | 0, _, _, _, _ => Nat.zero_le _
  | k + 1, 0, _, h, _ => absurd h (by omega)
  | k + 1, k' + 1, h, hk, hp => by
    have ih := zcn_mono (P := P) (Q := Q) (k := k) (k' := k') (h := h + 1) (by omega) (fun i h1 h2 => hp i (by omega) (by omega))
    have h0 := hp h (Nat.le_refl _) (by omega)
    show (P h).toNat + zcn P (h + 1) k ≤ (Q h).toNat + zcn Q (h + 1) k'
    cases hP : P h with
    | false =>
      show 0 + _ ≤ _
      omega
    | true =>
      rw [h0 hP]
      omega
theorem zpc_cn (n : Nat) : zpc n = zcn (fun i => n.testBit i) 0 8 := by
  have e0 : (n.testBit 0).toNat = n % 2 := by rw [Nat.toNat_testBit, Nat.pow_zero, Nat.div_one]
  have e1 : (n.testBit 1).toNat = n / 2 % 2 := Nat.toNat_testBit n 1
  have e2 : (n.testBit 2).toNat = n / 4 % 2 := Nat.toNat_testBit n 2
  have e3 : (n.testBit 3).toNat = n / 8 % 2 := Nat.toNat_testBit n 3
  have e4 : (n.testBit 4).toNat = n / 16 % 2 := Nat.toNat_testBit n 4
  have e5 : (n.testBit 5).toNat = n / 32 % 2 := Nat.toNat_testBit n 5
  have e6 : (n.testBit 6).toNat = n / 64 % 2 := Nat.toNat_testBit n 6
  have e7 : (n.testBit 7).toNat = n / 128 % 2 := Nat.toNat_testBit n 7
  unfold zpc
  rw [← e0, ← e1, ← e2, ← e3, ← e4, ← e5, ← e6, ← e7]
  rfl
theorem zAs_ok {may : Nat → Nat} {cap : Nat → Int} : ∀ (k r t : Nat), zAs may cap k r t → ∃ σ : Nat → Nat, (∀ h, t.testBit h = true → r ≤ σ h ∧ σ h < r + k ∧ (may (σ h)).testBit h = true) ∧ ∀ q, r ≤ q → q < r + k → (zcn (fun i => t.testBit i && decide (σ i = q)) 0 8 : Int) ≤ cap q
  | 0, r, t, h => by
    have h : t = 0 := h
    subst h
    exact ⟨fun _ => 0, fun h hb => (by rw [Nat.zero_testBit] at hb; cases hb), fun q h1 h2 => absurd h2 (by omega)⟩
  | k + 1, r, t, h => by
    obtain ⟨own, t', h1, h2, h3, rfl, h5⟩ := h
    obtain ⟨σ', s1, s2⟩ := zAs_ok k (r + 1) t' h5
    have key : ∀ i, own.testBit i = true → (may r).testBit i = true := by
      intro i hi
      rw [← h1, Nat.testBit_and, Bool.and_eq_true] at hi
      exact hi.2
    refine ⟨fun i => if own.testBit i then r else σ' i, fun h hb => ?_, fun q hq1 hq2 => ?_⟩
    · dsimp only
      cases ho : own.testBit h with
      | true =>
        rw [if_pos rfl]
        exact ⟨Nat.le_refl _, by omega, key h ho⟩
      | false =>
        rw [Nat.testBit_or, ho, Bool.or_false] at hb
        obtain ⟨a1, a2, a3⟩ := s1 h hb
        rw [if_neg (by decide)]
        exact ⟨by omega, by omega, a3⟩
    · rcases Nat.lt_or_ge r q with hr | hr
      · refine Int.le_trans ?_ (s2 q (by omega) (by omega))
        refine Int.ofNat_le.mpr (zcn_mono (Nat.le_refl _) (fun i _ _ hi => ?_))
        simp only [Bool.and_eq_true, decide_eq_true_eq] at hi ⊢
        obtain ⟨b1, b2⟩ := hi
        cases ho : own.testBit i with
        | true => rw [ho, if_pos rfl] at b2; omega
        | false =>
          rw [ho, if_neg (by decide)] at b2
          rw [Nat.testBit_or, ho, Bool.or_false] at b1
          exact ⟨b1, b2⟩
      · have e : q = r := by omega
        subst e
        refine Int.le_trans ?_ h2
        rw [zpc_cn]
        refine Int.ofNat_le.mpr (zcn_mono (Nat.le_refl _) (fun i _ _ hi => ?_))
        simp only [Bool.and_eq_true, decide_eq_true_eq] at hi
        obtain ⟨b1, b2⟩ := hi
        cases ho : own.testBit i with
        | true => rfl
        | false =>
          rw [ho, if_neg (by decide)] at b2
          rw [Nat.testBit_or, ho, Bool.or_false] at b1
          have := (s1 i b1).1
          omega
/-- a rota from the hour h on, for k hours, riders that have ridden so much -/
def zFs (may : Nat → Nat) (cap : Nat → Int) (M : Nat) (Fr : Nat → Int) (h k : Nat) (σ : Nat → Nat) : Prop := (∀ t, h ≤ t → t < h + k → σ t < M ∧ (may (σ t)).testBit t = true) ∧ ∀ r, r < M → Fr r + (zcn (fun i => decide (σ i = r)) h k : Int) ≤ cap r
theorem zFs_of {may : Nat → Nat} {cap : Nat → Int} {M n : Nat} (hn : n ≤ 8) (h : zAs may cap M 0 (2 ^ n - 1)) : ∃ σ, zFs may cap M (fun _ => 0) 0 n σ := by
  obtain ⟨σ, s1, s2⟩ := zAs_ok M 0 (2 ^ n - 1) h
  have hb : ∀ t, t < n → (2 ^ n - 1).testBit t = true := fun t ht => by rw [Nat.testBit_two_pow_sub_one]; exact decide_eq_true ht
  refine ⟨σ, fun t _ ht => ?_, fun r hr => ?_⟩
  · obtain ⟨a1, a2, a3⟩ := s1 t (hb t (by omega))
    exact ⟨by omega, a3⟩
  · rw [Int.zero_add]
    refine Int.le_trans ?_ (s2 r (Nat.zero_le _) (by omega))
    refine Int.ofNat_le.mpr (zcn_mono hn (fun i _ h2 hi => ?_))
    rw [hb i (by omega), Bool.true_and]
    exact hi
/-- an hour further -/
theorem zFs_step {may : Nat → Nat} {cap : Nat → Int} {M h k : Nat} {Fr Fr' : Nat → Int} {σ : Nat → Nat} (hs : zFs may cap M Fr h (k + 1) σ) (hF : ∀ r, r < M → Fr' r = Fr r + (if σ h = r then 1 else 0)) : zFs may cap M Fr' (h + 1) k σ := by
  refine ⟨fun t h1 h2 => hs.1 t (by omega) (by omega), fun r hr => ?_⟩
  have h1 := hs.2 r hr
  have h2 : zcn (fun i => decide (σ i = r)) h (k + 1) = (decide (σ h = r)).toNat + zcn (fun i => decide (σ i = r)) (h + 1) k := rfl
  rw [h2] at h1
  rw [hF r hr]
  by_cases e : σ h = r
  · rw [if_pos e]
    rw [decide_eq_true e] at h1
    have h3 : (true.toNat : Nat) = 1 := rfl
    rw [h3] at h1
    omega
  · rw [if_neg e]
    rw [decide_eq_false e] at h1
    have h3 : (false.toNat : Nat) = 0 := rfl
    rw [h3] at h1
    omega
