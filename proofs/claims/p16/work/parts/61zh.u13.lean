/-! rota(): its loops in both -/
def yro (c : Nat) (s : Int32) : Prop := s = 45 ∨ (48 ≤ s.toInt ∧ s.toInt < 48 + (c : Int))
def yrv (s : Int32) : Int32 := if s = 45 then -1 else s - 48
theorem yrv_r {c : Nat} {s : Int32} (hc : c ≤ 8) (h : yro c s) : -1 ≤ (yrv s).toInt ∧ (yrv s).toInt < (c : Int) ∨ (s = 45 ∧ yrv s = -1) := by
  unfold yrv
  by_cases g : s = 45
  · exact Or.inr ⟨g, if_pos g⟩
  · have h := h.resolve_left g
    have e48 : (48 : Int32).toInt = 48 := by decide
    rw [if_neg g]
    refine Or.inl ?_
    rw [xt_sub (by rw [e48]; omega) (by rw [e48]; omega), e48]
    omega
section YU13
variable {d c n n0 stop : Nat} {I : Nat → Nat → Int32} {J : Nat → Nat → Int64} {R : Nat → Nat → Nat} {x y z w il : Int32} {S : xq_S}
theorem yc_dig : xq_D xqP (d + 1) 136 [.int x] S = some (some (.int (if 48 ≤ x.toInt ∧ x.toInt ≤ 57 then 1 else 0)), S) := by
  have e48 : (48 : Int32).toInt = 48 := by decide
  have e57 : (57 : Int32).toInt = 57 := by decide
  rw [qX7_isDigit_eq]
  simp only [xt_lt, e48, e57]
  by_cases h1 : x.toInt < 48
  · rw [if_pos h1, if_neg (by omega)]
  · rw [if_neg h1]
    by_cases h2 : 57 < x.toInt
    · rw [if_pos h2, if_neg (by omega)]
    · rw [if_neg h2, if_pos (by omega)]
theorem yc_rfl (hc : c ≤ 8) (h3 : I 3 6 = Int32.ofNat c) (h1 : I 1 1 = Int32.ofNat n0) (h7 : I 3 7 = Int32.ofNat n) (hn0 : n0 ≤ 80) (hn : n ≤ 8) (hs : stop ≤ n0) (hs8 : stop ≤ 8) (hT : ∀ i, i < stop → 0 ≤ (I 2 i).toInt ∧ (I 2 i).toInt ≤ 255) : ∀ m p, p + m = stop → (∃ p', p ≤ p' ∧ p' < stop ∧ ¬ yro c (I 2 p') ∧ (∀ i, p ≤ i → i < p' → yro c (I 2 i)) ∧ qX7_rotaFault_h20 (d + 1) (Int32.ofNat stop) (Int32.ofNat p) (I, J, R) = some (some (.int (Int32.ofNat p')), I, J, R)) ∨ ((∀ i, p ≤ i → i < stop → yro c (I 2 i)) ∧ qX7_rotaFault_h20 (d + 1) (Int32.ofNat stop) (Int32.ofNat p) (I, J, R) = some (some (.int (if n0 = n then -1 else Int32.ofNat stop)), I, J, R))
  | 0, p, h => by
    have e : p = stop := by omega
    subst e
    have e1 : (I, J, R).1 1 1 = Int32.ofNat n0 := h1
    have e2 : (I, J, R).1 3 7 = Int32.ofNat n := h7
    refine Or.inr ⟨fun i h1 h2 => by omega, ?_⟩
    rw [qX7_rotaFault_h20_eq, if_pos (Int32.le_refl _), e1, e2]
    by_cases g : n0 = n
    · rw [if_pos g, g, if_neg (fun q => q rfl)]
    · rw [if_neg g, if_pos (fun q => g (xr_nat_inj (by omega) (by omega) q))]
  | m + 1, p, h => by
    have a1 : Int32.ofNat p + (1 : Int32) = Int32.ofNat (p + 1) := (Int32.ofNat_add p 1).symm
    have e48 : (48 : Int32).toInt = 48 := by decide
    have e45 : (45 : Int32).toInt = 45 := by decide
    obtain ⟨t1, t2⟩ := hT p (by omega)
    have es : (I 2 p - 48).toInt = (I 2 p).toInt - 48 := by rw [xt_sub (by rw [e48]; omega) (by rw [e48]; omega), e48]
    have hst : qX7_rotaFault_h20 (d + 1) (Int32.ofNat stop) (Int32.ofNat p) (I, J, R) = if I 2 p = 45 then qX7_rotaFault_h20 (d + 1) (Int32.ofNat stop) (Int32.ofNat (p + 1)) (I, J, R) else if 48 ≤ (I 2 p).toInt ∧ (I 2 p).toInt < 48 + (c : Int) then qX7_rotaFault_h20 (d + 1) (Int32.ofNat stop) (Int32.ofNat (p + 1)) (I, J, R) else some (some (.int (Int32.ofNat p)), I, J, R) := by
      rw [qX7_rotaFault_h20_eq, if_neg (fun q => by have := (xr_le (by omega) (by omega)).mp q; omega), yc_at h1 hn0 (by omega), xb_I1, if_pos (show p < n0 by omega)]
      by_cases g1 : I 2 p = 45
      · rw [if_pos g1, if_pos g1, qX7_rotaFault_h63_eq, a1]
      · rw [if_neg g1, if_neg g1, yc_dig, xb_I1]
        by_cases g2 : 48 ≤ (I 2 p).toInt ∧ (I 2 p).toInt ≤ 57
        · rw [if_pos g2, if_neg (by decide), yc_has h3 hc, xb_I1, es]
          by_cases g3 : 48 ≤ (I 2 p).toInt ∧ (I 2 p).toInt < 48 + (c : Int)
          · rw [if_pos g3, if_pos (show 0 ≤ (I 2 p).toInt - 48 ∧ (I 2 p).toInt - 48 < (c : Int) by omega), if_pos (by decide), qX7_rotaFault_h63_eq, a1]
          · rw [if_neg g3, if_neg (show ¬ (0 ≤ (I 2 p).toInt - 48 ∧ (I 2 p).toInt - 48 < (c : Int)) by omega), if_neg (by decide)]
        · rw [if_neg g2, if_pos rfl, if_neg (by omega)]
    have ih := yc_rfl hc h3 h1 h7 hn0 hn hs hs8 hT m (p + 1) (by omega)
    by_cases g : yro c (I 2 p)
    · have hst2 : qX7_rotaFault_h20 (d + 1) (Int32.ofNat stop) (Int32.ofNat p) (I, J, R) = qX7_rotaFault_h20 (d + 1) (Int32.ofNat stop) (Int32.ofNat (p + 1)) (I, J, R) := by
        rw [hst]
        rcases g with g | g
        · rw [if_pos g]
        · by_cases g9 : I 2 p = 45
          · rw [if_pos g9]
          · rw [if_neg g9, if_pos g]
      rcases ih with ⟨p', q1, q2, q3, q4, q5⟩ | ⟨q1, q2⟩
      · refine Or.inl ⟨p', by omega, q2, q3, fun i h1 h2 => ?_, hst2.trans q5⟩
        by_cases e : i = p
        · rw [e]; exact g
        · exact q4 i (by omega) h2
      · refine Or.inr ⟨fun i h1 h2 => ?_, hst2.trans q2⟩
        by_cases e : i = p
        · rw [e]; exact g
        · exact q1 i (by omega) h2
    · refine Or.inl ⟨p, Nat.le_refl _, by omega, g, fun i h1 h2 => by omega, ?_⟩
      rw [hst, if_neg (fun q => g (Or.inl q)), if_neg (fun q => g (Or.inr q))]
theorem yc_takel (hn0 : n0 ≤ 80) (hn : n ≤ n0) (hn8 : n ≤ 8) : ∀ (m h : Nat) (I : Nat → Nat → Int32) (a : Int32), h + m = 8 → I 1 1 = Int32.ofNat n0 → I 3 7 = Int32.ofNat n → ∃ I' a', qX7_takeRota_h4 (d + 1) a (Int32.ofNat h) (I, J, R) = some (some (.int a'), I', J, R) ∧ (∀ i, h ≤ i → i < 8 → I' 16 i = if i < n then yrv (I 2 i) else -1) ∧ (∀ k j, ¬ (k = 16 ∧ h ≤ j ∧ j < 8) → I' k j = I k j)
  | 0, h, I, a, hh, h11, h7 => by
    have e : h = 8 := by omega
    subst e
    refine ⟨I, a, ?_, fun i h1 h2 => by omega, fun _ _ _ => rfl⟩
    rw [qX7_takeRota_h4_eq, if_pos (show (8 : Int32) ≤ Int32.ofNat 8 by decide)]
  | m + 1, h, I, a, hh, h11, h7 => by
    have a1 : Int32.ofNat h + (1 : Int32) = Int32.ofNat (h + 1) := (Int32.ofNat_add h 1).symm
    have b1 := xt_nat (n := h) (by omega)
    have b2 : (Int32.ofNat h).toInt.toNat = h := by omega
    have e2 : (I, J, R).1 3 7 = Int32.ofNat n := h7
    have h8 : 0 ≤ (h : Int) ∧ (h : Int) < ((8 : Nat) : Int) := by omega
    have k34 : ∀ s : Int32, ∃ a2, qX7_takeRota_h34 (d + 1) a (Int32.ofNat h) s (I, J, R) = qX7_takeRota_h4 (d + 1) a2 (Int32.ofNat (h + 1)) (xq_upd I 16 h (yrv s), J, R) := fun s => by
      have ev : (if ¬ s = 45 then s - 48 else -1) = yrv s := by
        unfold yrv
        by_cases g : s = 45
        · rw [if_neg (fun q => q g), if_pos g]
        · rw [if_pos g, if_neg g]
      by_cases g : s = 45
      · refine ⟨a + 0, ?_⟩
        rw [qX7_takeRota_h34_eq, b2, b1, if_pos h8, ev, if_neg (fun q => q g), qX7_takeRota_h70_eq, a1]
      · refine ⟨a + 1, ?_⟩
        rw [qX7_takeRota_h34_eq, b2, b1, if_pos h8, ev, if_pos g, qX7_takeRota_h70_eq, a1]
    have key : ∃ a2, qX7_takeRota_h4 (d + 1) a (Int32.ofNat h) (I, J, R) = qX7_takeRota_h4 (d + 1) a2 (Int32.ofNat (h + 1)) (xq_upd I 16 h (if h < n then yrv (I 2 h) else -1), J, R) := by
      rw [qX7_takeRota_h4_eq, if_neg (fun q => by have := (xr_le (a := 8) (by omega) (by omega)).mp q; omega), e2]
      by_cases g : h < n
      · rw [if_neg (fun q => by have := (xr_le (by omega) (by omega)).mp q; omega), yc_at h11 hn0 (by omega), xb_I1, if_pos (show h < n0 by omega), if_pos g]
        exact k34 _
      · rw [if_pos ((xr_le (by omega) (by omega)).mpr (by omega)), if_neg g]
        have := k34 45
        rwa [show yrv 45 = -1 by decide] at this
    obtain ⟨a2, key⟩ := key
    obtain ⟨I', a', g0, g1, g2⟩ := yc_takel hn0 hn hn8 m (h + 1) (xq_upd I 16 h (if h < n then yrv (I 2 h) else -1)) a2 (by omega) (by rw [xu_k (by decide)]; exact h11) (by rw [xu_k (by decide)]; exact h7)
    refine ⟨I', a', key.trans g0, fun i q1 q2 => ?_, fun k j q => ?_⟩
    · by_cases e : i = h
      · rw [g2 16 i (by omega), e, xu_t]
      · rw [g1 i (by omega) q2, xu_k (by decide)]
    · rw [g2 k j (by omega), xq_upd_n (by omega)]
end YU13
