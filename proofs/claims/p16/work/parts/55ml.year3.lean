/-! A YEAR: the reference -/
def yps (T : Nat → Int32) : Nat → Nat
  | 0 => 0
  | k + 1 => yps T k + yaL (T (yps T k))
abbrev yaV (c : Nat) (l a b : Int32) : Prop := (l.toInt = 103 ∧ (0 ≤ a.toInt ∧ a.toInt ≤ 7) ∧ (b = -1 ∨ (0 ≤ b.toInt ∧ b.toInt < (c : Int)))) ∨ (l.toInt = 105 ∧ 0 ≤ a.toInt ∧ a.toInt < (c : Int)) ∨ l.toInt = 110 ∨ (¬ l.toInt = 103 ∧ ¬ l.toInt = 105 ∧ ¬ l.toInt = 110 ∧ (0 ≤ a.toInt ∧ a.toInt < (c : Int)) ∧ (0 ≤ b.toInt ∧ b.toInt < (c : Int)) ∧ ¬ a = b)
theorem yaA_cg {I I' : Nat → Nat → Int32} {T : Nat → Int32} {i p k : Nat} (h : yaA I T i p) (h1 : ∀ b, b < 3 * k → I' 110 b = I 110 b) (h2 : i < k) : yaA I' T i p := by
  obtain ⟨g1, g2, g3⟩ := h
  exact ⟨(h1 _ (by omega)).trans g1, (h1 _ (by omega)).trans g2, fun z => (h1 _ (by omega)).trans (g3 z)⟩
section YYC
variable {d n0 n c q0 : Nat} {I : Nat → Nat → Int32} {J : Nat → Nat → Int64} {R : Nat → Nat → Nat} {l a b x : Int32} {S : xq_S}
theorem yr_h13 {T : Nat → Int32} (hn : n0 ≤ 80) : ∀ (m p k : Nat) (I : Nat → Nat → Int32), n0 ≤ p + m → p = yps T k → p ≤ 60 → 2 * k ≤ p → T = yk_t I 99 n0 60 → yk_H I R 99 n0 60 → (∀ i, i < k → yaA I T i (yps T i)) → ∃ (I' : Nat → Nat → Int32) (p' : Nat) (w' : Int32) (K : Nat), qX8_year_h13 (d + 4) (Int32.ofNat k) (pI I p (-1), J, R) = qX8_year_h44 (d + 4) (Int32.ofNat K) (pI I' p' w', J, R) ∧ (∀ a b, ¬ a = 110 → I' a b = I a b) ∧ ((∃ q, yar T n0 m p k = .inl q ∧ w' = Int32.ofNat q ∧ q ≤ 80) ∨ (yar T n0 m p k = .inr K ∧ w' = -1 ∧ n0 ≤ p' ∧ p' = yps T K ∧ p' ≤ 60 ∧ 2 * K ≤ p' ∧ ∀ i, i < K → yaA I' T i (yps T i))) := by
  have done : ∀ (p k : Nat) (I : Nat → Nat → Int32), n0 ≤ p → p ≤ 60 → yk_H I R 99 n0 60 → qX8_year_h13 (d + 4) (Int32.ofNat k) (pI I p (-1), J, R) = qX8_year_h44 (d + 4) (Int32.ofNat k) (pI I p (-1), J, R) := by
    intro p k I h1 h2 h3
    have e13 : ((pI I p (-1), J, R) : xq_S).1 94 13 = Int32.ofNat n0 := h3.2.2.1
    have e15 : ((pI I p (-1), J, R) : xq_S).1 94 15 = Int32.ofNat p := rfl
    rw [qX8_year_h13_eq, xe_fine (w := -1) rfl, xb_I1, if_pos rfl, if_neg (by decide), e13, e15, if_pos ((xr_le (by omega) (by omega)).mpr h1)]
  intro m
  induction m with
  | zero =>
    intro p k I h1 h2 h3 h4 h5 h6 h7
    exact ⟨I, p, -1, k, done p k I (by omega) h3 h6, fun _ _ _ => rfl, Or.inr ⟨rfl, rfl, by omega, h2, h3, h4, h7⟩⟩
  | succ m ih =>
    intro p k I h1 h2 h3 h4 h5 h6 h7
    rw [yar]
    by_cases hz : n0 ≤ p
    · rw [if_pos hz]
      exact ⟨I, p, -1, k, done p k I hz h3 h6, fun _ _ _ => rfl, Or.inr ⟨rfl, rfl, hz, h2, h3, h4, h7⟩⟩
    · rw [if_neg hz]
      have e13 : ((pI I p (-1), J, R) : xq_S).1 94 13 = Int32.ofNat n0 := h6.2.2.1
      have e15 : ((pI I p (-1), J, R) : xq_S).1 94 15 = Int32.ofNat p := rfl
      have a1 : Int32.ofNat k + (1 : Int32) = Int32.ofNat (k + 1) := (Int32.ofNat_add k 1).symm
      have a3 : (3 : Int32) * Int32.ofNat k = Int32.ofNat (3 * k) := (Int32.ofNat_mul 3 k).symm
      obtain ⟨I1, p1, w1, g0, g1, g2, g3⟩ := yr_act (d := d) (J := J) h5 h6 h3 (k := k) (by omega)
      have st : qX8_year_h13 (d + 4) (Int32.ofNat k) (pI I p (-1), J, R) = qX8_year_h13 (d + 4) (Int32.ofNat (k + 1)) (pI I1 p1 w1, J, R) := by
        rw [qX8_year_h13_eq, xe_fine (w := -1) rfl, xb_I1, if_pos rfl, if_neg (by decide), e13, e15, if_neg (fun z => hz ((xr_le (by omega) (by omega)).mp z)), a3, g0, xb_V1, a1]
      rw [st]
      rcases g3 with ⟨q, u1, u2, u3⟩ | ⟨u1, u2, u3, u4, u5, u6⟩
      · have hw : ¬ w1 = -1 := fun z => by
          have := congrArg Int32.toInt (u2.symm.trans z)
          rw [xt_nat (by omega)] at this
          have em : ((-1 : Int32)).toInt = -1 := by decide
          omega
        refine ⟨I1, p1, w1, k + 1, ?_, g1, Or.inl ⟨q, ?_, u2, u3⟩⟩
        · rw [qX8_year_h13_eq, xe_fine (w := w1) rfl, xb_I1, if_neg hw, if_pos rfl]
        · rw [u1]
      · subst u2
        have hT1 : T = yk_t I1 99 n0 60 := h5.trans (yk_tcg g1).symm
        obtain ⟨I2, p2, w2, K, v0, v1, v2⟩ := ih p1 (k + 1) I1 (by omega) (by rw [yps, ← h2]; exact u5) u3 (by omega) hT1 (yk_Hcg h6 g1) (fun i hi => by
          by_cases hik : i = k
          · subst hik
            rw [← h2]
            exact u6
          · exact yaA_cg (h7 i (by omega)) g2 (by omega))
        refine ⟨I2, p2, w2, K, v0, fun a b h => (v1 a b h).trans (g1 a b h), ?_⟩
        rw [u1]
        exact v2
theorem yr_h44b {v w : Int32} {p : Nat} (hn : n0 ≤ 80) (hp : I 94 13 = Int32.ofNat n0) (hw : ¬ w = -1) : qX8_year_h44 (d + 4) v (pI I p w, J, R) = some (some (.int (-1 - w)), pI I p w, J, R) := by
  have e15 : ((pI I p w, J, R) : xq_S).1 94 15 = Int32.ofNat p := rfl
  rw [qX8_year_h44_eq, qX8_wasRight_eq, xe_fine (w := w) rfl, e15, yk_fault, xb_V1, if_neg hw, if_neg hw, xe_fine (w := w) rfl, if_neg hw]
  show xq_bI (if _ then some (some (.int 0), pI I p w, J, R) else some (some (.int 0), pI I p w, J, R)) _ = _
  rw [ite_self]
  rfl
theorem yr_h44g {v : Int32} {p : Nat} (hn : n0 ≤ p) (hp8 : p ≤ 80) (hp : I 94 13 = Int32.ofNat n0) : qX8_year_h44 (d + 4) v (pI I p (-1), J, R) = xq_bV (xq_D xqP (d + 4) 246 [.ref 95, .ref 106, .int 0] (pI I p (-1), J, R)) (fun S3 => qX8_year_h72 (d + 4) v 0 S3) := by
  have e13 : ((pI I p (-1), J, R) : xq_S).1 94 13 = Int32.ofNat n0 := hp
  have e15 : ((pI I p (-1), J, R) : xq_S).1 94 15 = Int32.ofNat p := rfl
  rw [qX8_year_h44_eq, qX8_wasRight_eq, xe_fine (w := -1) rfl, e13, e15, if_pos ((xr_le (by omega) (by omega)).mpr hn), if_pos rfl]
  rfl
theorem yr_lay106 : ∀ (m i : Nat) (I : Nat → Nat → Int32), i + m = 27 → ∃ I', qX8_lay_95_106_h2 d 0 (Int32.ofNat i) (I, J, R) = some (none, I', J, R) ∧ ∀ k j, ¬ k = 106 → I' k j = I k j
  | 0, i, I, h => by
    refine ⟨I, ?_, fun _ _ _ => rfl⟩
    rw [qX8_lay_95_106_h2_eq, if_pos (show (27 : Int32) ≤ Int32.ofNat i from (xr_le (a := 27) (by omega) (by omega)).mpr (by omega))]
  | m + 1, i, I, h => by
    have a1 : Int32.ofNat i + (1 : Int32) = Int32.ofNat (i + 1) := (Int32.ofNat_add i 1).symm
    have a0 : (0 : Int32) + Int32.ofNat i = Int32.ofNat i := Int32.zero_add _
    have b1 := xt_nat (n := i) (by omega)
    have b2 : (Int32.ofNat i).toInt.toNat = i := by omega
    obtain ⟨I', g0, g1⟩ := yr_lay106 m (i + 1) (xq_upd I 106 i (I 95 i)) (by omega)
    refine ⟨I', ?_, fun k j h => by rw [g1 k j h, xu_k h]⟩
    rw [qX8_lay_95_106_h2_eq, if_neg (show ¬ (27 : Int32) ≤ Int32.ofNat i from fun z => by have := (xr_le (a := 27) (by omega) (by omega)).mp z; omega), a0, b2, b1, if_pos (by omega), if_pos (by omega), a1]
    exact g0
theorem yr_lay105 {K : Nat} (hK : K ≤ 11) : ∀ (m i : Nat) (I : Nat → Nat → Int32), i + m = 27 → ∃ I', qX8_lay_106_105_h2 d (Int32.ofNat (27 * K)) (Int32.ofNat i) (I, J, R) = some (none, I', J, R) ∧ ∀ k j, ¬ k = 105 → I' k j = I k j
  | 0, i, I, h => by
    refine ⟨I, ?_, fun _ _ _ => rfl⟩
    rw [qX8_lay_106_105_h2_eq, if_pos (show (27 : Int32) ≤ Int32.ofNat i from (xr_le (a := 27) (by omega) (by omega)).mpr (by omega))]
  | m + 1, i, I, h => by
    have a1 : Int32.ofNat i + (1 : Int32) = Int32.ofNat (i + 1) := (Int32.ofNat_add i 1).symm
    have a0 : Int32.ofNat (27 * K) + Int32.ofNat i = Int32.ofNat (27 * K + i) := (Int32.ofNat_add (27 * K) i).symm
    have b1 := xt_nat (n := i) (by omega)
    have b2 : (Int32.ofNat i).toInt.toNat = i := by omega
    have b3 := xt_nat (n := 27 * K + i) (by omega)
    have b4 : (Int32.ofNat (27 * K + i)).toInt.toNat = 27 * K + i := by omega
    obtain ⟨I', g0, g1⟩ := yr_lay105 hK m (i + 1) (xq_upd I 105 (27 * K + i) (I 106 i)) (by omega)
    refine ⟨I', ?_, fun k j h => by rw [g1 k j h, xu_k h]⟩
    rw [qX8_lay_106_105_h2_eq, if_neg (show ¬ (27 : Int32) ≤ Int32.ofNat i from fun z => by have := (xr_le (a := 27) (by omega) (by omega)).mp z; omega), a0, b4, b3, b2, b1, if_pos (by omega), if_pos (by omega), a1]
    exact g0
theorem yr_remh : ∀ (m i : Nat) (I : Nat → Nat → Int32), i + m = 297 → ∃ I', qX8_remember_106_h11 d (Int32.ofNat i) (I, J, R) = qX8_remember_106_h11 d (Int32.ofNat 297) (I', J, R) ∧ ∀ k j, ¬ k = 105 → I' k j = I k j
  | 0, i, I, h => by
    have : i = 297 := by omega
    subst this
    exact ⟨I, rfl, fun _ _ _ => rfl⟩
  | m + 1, i, I, h => by
    have a1 : Int32.ofNat i + (1 : Int32) = Int32.ofNat (i + 1) := (Int32.ofNat_add i 1).symm
    have a0 : Int32.ofNat i + (27 : Int32) = Int32.ofNat (i + 27) := (Int32.ofNat_add i 27).symm
    have b1 := xt_nat (n := i) (by omega)
    have b2 : (Int32.ofNat i).toInt.toNat = i := by omega
    have b3 := xt_nat (n := i + 27) (by omega)
    have b4 : (Int32.ofNat (i + 27)).toInt.toNat = i + 27 := by omega
    obtain ⟨I', g0, g1⟩ := yr_remh m (i + 1) (xq_upd I 105 i (I 105 (i + 27))) (by omega)
    refine ⟨I', ?_, fun k j h => by rw [g1 k j h, xu_k h]⟩
    rw [qX8_remember_106_h11_eq, if_neg (show ¬ (297 : Int32) ≤ Int32.ofNat i from fun z => by have := (xr_le (a := 297) (by omega) (by omega)).mp z; omega), a0, b4, b3, b2, b1, if_pos (by omega), if_pos (by omega), a1]
    exact g0
theorem yr_rem {M : Nat} (h : I 94 24 = Int32.ofNat M) (hM : M ≤ 12) : ∃ I', xq_D xqP (d + 2) 269 [.ref 94, .ref 106] (I, J, R) = some (none, I', J, R) ∧ ∀ k j, ¬ k = 105 → ¬ (k = 94 ∧ j = 24) → I' k j = I k j := by
  have h' : (I, J, R).1 94 24 = Int32.ofNat M := h
  rw [qX8_remember_106_eq, h']
  by_cases hz : M = 12
  · subst hz
    rw [if_neg (fun z => z rfl)]
    obtain ⟨I1, g0, g1⟩ := yr_remh (d := d + 1) (J := J) (R := R) 297 0 I rfl
    have g0' : qX8_remember_106_h11 (d + 1) 0 (I, J, R) = qX8_remember_106_h11 (d + 1) (Int32.ofNat 297) (I1, J, R) := g0
    have h1 : (I1, J, R).1 94 24 = Int32.ofNat 12 := (g1 94 24 (by decide)).trans h
    rw [g0', qX8_remember_106_h11_eq, if_pos (by decide), h1, qX8_lay_106_105_eq]
    obtain ⟨I2, k0, k1⟩ := yr_lay105 (d := d) (J := J) (R := R) (K := 11) (by omega) 27 0 (xq_upd I1 94 24 (Int32.ofNat 12 - 1)) rfl
    have k0' : qX8_lay_106_105_h2 d ((27 : Int32) * (Int32.ofNat 12 - (1 : Int32))) 0 (xq_upd I1 94 24 (Int32.ofNat 12 - 1), J, R) = some (none, I2, J, R) := k0
    show ∃ I', xq_bV (qX8_lay_106_105_h2 d ((27 : Int32) * (Int32.ofNat 12 - (1 : Int32))) 0 (xq_upd I1 94 24 (Int32.ofNat 12 - 1), J, R)) _ = _ ∧ _
    rw [k0', xb_V1]
    exact ⟨_, rfl, fun k j h1 h2 => (xq_upd_n h2).trans ((k1 k j h1).trans ((xq_upd_n h2).trans (g1 k j h1)))⟩
  · rw [if_pos (fun z => hz (by have := congrArg Int32.toInt z; rw [xt_nat (by omega)] at this; have e12 : ((12 : Int32)).toInt = 12 := (by decide); omega)), qX8_lay_106_105_eq]
    obtain ⟨I2, k0, k1⟩ := yr_lay105 (d := d) (J := J) (R := R) (K := M) (by omega) 27 0 I rfl
    have k0' : qX8_lay_106_105_h2 d ((27 : Int32) * Int32.ofNat M) 0 (I, J, R) = some (none, I2, J, R) := by
      rw [show (27 : Int32) * Int32.ofNat M = Int32.ofNat (27 * M) from (Int32.ofNat_mul 27 M).symm]
      exact k0
    rw [k0', xb_V1]
    exact ⟨_, rfl, fun k j h1 h2 => (xq_upd_n h2).trans (k1 k j h1)⟩
end YYC
