/-! rota(): the reference's loops -/
section YU14
variable {d c n n0 q0 p : Nat} {I : Nat → Nat → Int32} {J : Nat → Nat → Int64} {R Rr : Nat → Nat → Nat} {x y z w il : Int32} {S : xq_S}
theorem pI_101 {i : Nat} {v w : Int32} : xq_upd (pI I p w) 101 i v = pI (xq_upd I 101 i v) p w := by
  funext k j
  unfold pI xe_I xq_upd
  grind
theorem yk_H101 {i : Nat} {v : Int32} (h : yk_H I Rr 99 n0 n) : yk_H (xq_upd I 101 i v) Rr 99 n0 n := by
  obtain ⟨h0, h1, h2, h3, h4, h5⟩ := h
  refine ⟨h0, h1, ?_, ?_, h4, fun i hi => ?_⟩
  · rw [xu_k (by decide)]
    exact h2
  · rw [xu_k (by decide)]
    exact h3
  · rw [xu_k (by decide)]
    exact h5 i hi
theorem yk_t101 {i : Nat} {v : Int32} : yk_t (xq_upd I 101 i v) 99 n0 n = yk_t I 99 n0 n := by
  funext k
  unfold yk_t
  rw [xu_k (by decide)]
theorem yr_rol (hc : c ≤ 8) (hn : n ≤ 8) : ∀ m h (I : Nat → Nat → Int32), h + m = n → yk_H I Rr 99 n0 n → I 94 1 = Int32.ofNat n → I 94 3 = Int32.ofNat c → (∃ p h', h ≤ p ∧ p < n ∧ ¬ yro c (yk_t I 99 n0 n p) ∧ (∀ i, h ≤ i → i < p → yro c (yk_t I 99 n0 n i)) ∧ ∃ I', qX8_rota_h15 (d + 3) (Int32.ofNat h) (pI I h (-1), J, Rr) = qX8_rota_h102 (d + 3) h' (pI I' p (Int32.ofNat p), J, Rr) ∧ ∀ k j, ¬ k = 101 → I' k j = I k j) ∨ ((∀ i, h ≤ i → i < n → yro c (yk_t I 99 n0 n i)) ∧ ∃ I', qX8_rota_h15 (d + 3) (Int32.ofNat h) (pI I h (-1), J, Rr) = qX8_rota_h102 (d + 3) (Int32.ofNat n) (pI I' n (-1), J, Rr) ∧ (∀ i, h ≤ i → i < n → I' 101 i = yrv (yk_t I 99 n0 n i)) ∧ (∀ i, i < h → I' 101 i = I 101 i) ∧ ∀ k j, ¬ k = 101 → I' k j = I k j)
  | 0, h, I, hm, hH, h1, h3 => by
    have e : h = n := by omega
    subst e
    have e1 : (pI I h (-1), J, Rr).1 94 1 = Int32.ofNat h := (pI_o (I := I) (p := h) (w := -1) (k := 94) (j := 1) (by decide)).trans h1
    refine Or.inr ⟨fun i h1 h2 => by omega, I, ?_, fun i h1 h2 => by omega, fun _ _ => rfl, fun _ _ _ => rfl⟩
    rw [qX8_rota_h15_eq, e1, if_pos (Int32.le_refl _)]
  | m + 1, h, I, hm, hH, h1, h3 => by
    have a1 : Int32.ofNat h + (1 : Int32) = Int32.ofNat (h + 1) := (Int32.ofNat_add h 1).symm
    have b1 := xt_nat (n := h) (by omega)
    have b2 : (Int32.ofNat h).toInt.toNat = h := by omega
    have h24 : 0 ≤ (h : Int) ∧ (h : Int) < ((24 : Nat) : Int) := by omega
    have e48 : (48 : Int32).toInt = 48 := by decide
    have em1 : (-1 : Int32) = -1 := rfl
    have e1 : ∀ (p : Nat) (w : Int32), (pI I p w, J, Rr).1 94 1 = Int32.ofNat n := fun p w => (pI_o (I := I) (p := p) (w := w) (k := 94) (j := 1) (by omega)).trans h1
    have e3 : pI I h (-1) 94 3 = Int32.ofNat c := (pI_o (I := I) (p := h) (w := -1) (k := 94) (j := 3) (by omega)).trans h3
    have hnle : ¬ Int32.ofNat n ≤ Int32.ofNat h := fun q => by have := (xr_le (by omega) (by omega)).mp q; omega
    obtain ⟨t1, t2⟩ := yk_tr (I := I) (q := 99) (n0 := n0) (m := n) (p := h)
    have es : (yk_t I 99 n0 n h - 48).toInt = (yk_t I 99 n0 n h).toInt - 48 := by rw [xt_sub (by rw [e48]; omega) (by rw [e48]; omega), e48]
    have k79 : ∀ v : Int32, qX8_rota_h79 (d + 3) (Int32.ofNat h) v (pI I h (-1), J, Rr) = qX8_rota_h15 (d + 3) (Int32.ofNat (h + 1)) (pI (xq_upd I 101 h v) (h + 1) (-1), J, Rr) := fun v => by
      have e15 : (pI I h (-1), J, Rr).1 94 15 = Int32.ofNat h := rfl
      rw [qX8_rota_h79_eq, b2, b1, if_pos h24, e15, a1]
      show qX8_rota_h15 (d + 3) (Int32.ofNat (h + 1)) (xq_upd (xq_upd (pI I h (-1)) 94 15 (Int32.ofNat (h + 1))) 101 h v, J, Rr) = _
      rw [pI15, pI_101]
    have k50 : ∀ v : Int32, qX8_rota_h50 (d + 3) (Int32.ofNat h) v (pI I h (-1), J, Rr) = if yk_t I 99 n0 n h = 45 ∨ (0 ≤ v.toInt ∧ v.toInt < (c : Int)) then qX8_rota_h15 (d + 3) (Int32.ofNat (h + 1)) (pI (xq_upd I 101 h v) (h + 1) (-1), J, Rr) else qX8_rota_h15 (d + 3) (Int32.ofNat (h + 1)) (pI I h (Int32.ofNat h), J, Rr) := fun v => by
      have e15 : (pI I h (-1), J, Rr).1 94 15 = Int32.ofNat h := rfl
      rw [qX8_rota_h50_eq, yk_here hH (by omega), xb_I1]
      by_cases g : yk_t I 99 n0 n h = 45
      · rw [if_pos g, if_pos (Or.inl g), k79]
      · rw [if_neg g, yr_man e3 hc, xb_I1]
        by_cases g2 : 0 ≤ v.toInt ∧ v.toInt < (c : Int)
        · rw [if_pos g2, if_pos (by decide), if_pos (Or.inr g2), k79]
        · rw [if_neg g2, if_neg (by decide), if_neg (fun q => q.elim g g2), e15, yk_fault, xb_V1, if_pos rfl, a1]
    have key : qX8_rota_h15 (d + 3) (Int32.ofNat h) (pI I h (-1), J, Rr) = if yk_t I 99 n0 n h = 45 ∨ (0 ≤ (yrv (yk_t I 99 n0 n h)).toInt ∧ (yrv (yk_t I 99 n0 n h)).toInt < (c : Int)) then qX8_rota_h15 (d + 3) (Int32.ofNat (h + 1)) (pI (xq_upd I 101 h (yrv (yk_t I 99 n0 n h))) (h + 1) (-1), J, Rr) else qX8_rota_h15 (d + 3) (Int32.ofNat (h + 1)) (pI I h (Int32.ofNat h), J, Rr) := by
      rw [← k50, qX8_rota_h15_eq, e1, if_neg hnle, yk_fine, xb_I1, if_pos rfl, if_neg (by decide), yk_here hH (by omega), xb_I1]
      by_cases g : yk_t I 99 n0 n h = 45
      · rw [if_neg (fun q => q g), show yrv (yk_t I 99 n0 n h) = -1 from if_pos g]
      · rw [if_pos g, yk_here hH (by omega), xb_I1, show yrv (yk_t I 99 n0 n h) = yk_t I 99 n0 n h - 48 from if_neg g]
    by_cases g : yro c (yk_t I 99 n0 n h)
    · have g' : yk_t I 99 n0 n h = 45 ∨ (0 ≤ (yrv (yk_t I 99 n0 n h)).toInt ∧ (yrv (yk_t I 99 n0 n h)).toInt < (c : Int)) := by
        by_cases g9 : yk_t I 99 n0 n h = 45
        · exact Or.inl g9
        · have := g.resolve_left g9
          rw [show yrv (yk_t I 99 n0 n h) = yk_t I 99 n0 n h - 48 from if_neg g9, es]
          exact Or.inr ⟨by omega, by omega⟩
      rw [if_pos g'] at key
      rcases yr_rol hc hn m (h + 1) (xq_upd I 101 h (yrv (yk_t I 99 n0 n h))) (by omega) (yk_H101 hH) (by rw [xu_k (by decide)]; exact h1) (by rw [xu_k (by decide)]; exact h3) with ⟨p, h', q1, q2, q3, q4, I', q5, q6⟩ | ⟨q1, I', q2, q3, q4, q5⟩
      · rw [yk_t101] at q3 q4
        refine Or.inl ⟨p, h', by omega, q2, q3, fun i r1 r2 => ?_, I', key.trans q5, fun k j r => ?_⟩
        · by_cases e : i = h
          · rw [e]; exact g
          · exact q4 i (by omega) r2
        · rw [q6 k j r, xq_upd_n (by omega)]
      · rw [yk_t101] at q1 q3
        refine Or.inr ⟨fun i r1 r2 => ?_, I', key.trans q2, fun i r1 r2 => ?_, fun i r => ?_, fun k j r => ?_⟩
        · by_cases e : i = h
          · rw [e]; exact g
          · exact q1 i (by omega) r2
        · by_cases e : i = h
          · rw [e, q4 h (by omega), xu_t]
          · exact q3 i (by omega) r2
        · rw [q4 i (by omega), xu_j (by omega)]
        · rw [q5 k j r, xq_upd_n (by omega)]
    · have g' : ¬ (yk_t I 99 n0 n h = 45 ∨ (0 ≤ (yrv (yk_t I 99 n0 n h)).toInt ∧ (yrv (yk_t I 99 n0 n h)).toInt < (c : Int))) := fun z => by
        rcases z with z | z
        · exact g (Or.inl z)
        · by_cases g9 : yk_t I 99 n0 n h = 45
          · exact g (Or.inl g9)
          · rw [show yrv (yk_t I 99 n0 n h) = yk_t I 99 n0 n h - 48 from if_neg g9, es] at z
            exact g (Or.inr ⟨by omega, by omega⟩)
      rw [if_neg g'] at key
      refine Or.inl ⟨h, Int32.ofNat (h + 1), Nat.le_refl _, by omega, g, fun i h1 h2 => by omega, I, ?_, fun _ _ _ => rfl⟩
      rw [key, qX8_rota_h15_eq, e1]
      by_cases g8 : Int32.ofNat n ≤ Int32.ofNat (h + 1)
      · rw [if_pos g8]
      · rw [if_neg g8, yk_fine, xb_I1, if_neg (xr_ne1 (by omega)), if_pos rfl]
/-- the new rota -/
theorem yr_asl (hn8 : n ≤ 8) : ∀ (m h : Nat) (I : Nat → Nat → Int32) (a : Int32), h + m = 8 → I 94 1 = Int32.ofNat n → ∃ I' a', qX8_rota_h128 (d + 1) a (Int32.ofNat h) (I, J, R) = some (some (.int a'), I', J, R) ∧ (∀ i, h ≤ i → i < 8 → I' 95 i = if i < n then I 101 i else -1) ∧ (∀ k j, ¬ (k = 95 ∧ h ≤ j ∧ j < 8) → I' k j = I k j)
  | 0, h, I, a, hh, h7 => by
    have e : h = 8 := by omega
    subst e
    refine ⟨I, a, ?_, fun i h1 h2 => by omega, fun _ _ _ => rfl⟩
    rw [qX8_rota_h128_eq, if_pos (show (8 : Int32) ≤ Int32.ofNat 8 by decide)]
  | m + 1, h, I, a, hh, h7 => by
    have a1 : Int32.ofNat h + (1 : Int32) = Int32.ofNat (h + 1) := (Int32.ofNat_add h 1).symm
    have b1 := xt_nat (n := h) (by omega)
    have b2 : (Int32.ofNat h).toInt.toNat = h := by omega
    have e2 : (I, J, R).1 94 1 = Int32.ofNat n := h7
    have h27 : 0 ≤ (h : Int) ∧ (h : Int) < ((27 : Nat) : Int) := by omega
    have h24 : 0 ≤ (h : Int) ∧ (h : Int) < ((24 : Nat) : Int) := by omega
    have k157 : ∀ s : Int32, ∃ a2, qX8_rota_h157 (d + 1) a (Int32.ofNat h) s (Int32.ofNat h) (I, J, R) = qX8_rota_h128 (d + 1) a2 (Int32.ofNat (h + 1)) (xq_upd I 95 h s, J, R) := fun s => by
      rw [qX8_rota_h157_eq, b2, b1, if_pos h27, if_pos h27]
      by_cases g : (xq_upd (I, J, R).1 95 h s) 95 h = -1
      · refine ⟨a + 0, ?_⟩
        rw [if_neg (fun q => q g), qX8_rota_h174_eq, a1]
      · refine ⟨a + 1, ?_⟩
        rw [if_pos g, qX8_rota_h174_eq, a1]
    have key : ∃ a2, qX8_rota_h128 (d + 1) a (Int32.ofNat h) (I, J, R) = qX8_rota_h128 (d + 1) a2 (Int32.ofNat (h + 1)) (xq_upd I 95 h (if h < n then I 101 h else -1), J, R) := by
      rw [qX8_rota_h128_eq, if_neg (fun q => by have := (xr_le (a := 8) (by omega) (by omega)).mp q; omega), e2]
      by_cases g : h < n
      · rw [if_neg (fun q => by have := (xr_le (by omega) (by omega)).mp q; omega), b2, b1, if_pos h24, if_pos g]
        have := k157 (I 101 h)
        exact this
      · rw [if_pos ((xr_le (by omega) (by omega)).mpr (by omega)), if_neg g]
        exact k157 (-1)
    obtain ⟨a2, key⟩ := key
    obtain ⟨I', a', g0, g1, g2⟩ := yr_asl hn8 m (h + 1) (xq_upd I 95 h (if h < n then I 101 h else -1)) a2 (by omega) (by rw [xu_k (by decide)]; exact h7)
    refine ⟨I', a', key.trans g0, fun i q1 q2 => ?_, fun k j q => ?_⟩
    · by_cases e : i = h
      · rw [g2 95 i (by omega), e, xu_t]
      · rw [g1 i (by omega) q2, xu_k (by decide)]
    · rw [g2 k j (by omega), xq_upd_n (by omega)]
end YU14
