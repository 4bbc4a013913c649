theorem xe_run_le {t : Nat → Int32} : ∀ (f p : Nat) (l : Int) (K : Int32), (xe_run t f p l K).1 ≤ p + f
  | 0, p, l, K => by show p ≤ p + 0; omega
  | f + 1, p, l, K => by
    show (if 97 ≤ (t p).toInt ∧ (t p).toInt ≤ 104 then (if l < (t p).toInt - 97 then xe_run t f (p + 1) ((t p).toInt - 97) (K ||| xr_bit (t p)) else (p, K, true)) else (p, K, false)).1 ≤ _
    split
    · split
      · have := xe_run_le (t := t) f (p + 1) ((t p).toInt - 97) (K ||| xr_bit (t p))
        omega
      · show p ≤ _
        omega
    · show p ≤ _
      omega
def xe_rel (c n : Nat) (C M W K : Nat → Int32) : Prop := ∀ i, i < n → M (c + i) = C (3 * i) ∧ W (c + i) = C (3 * i + 1) ∧ K (c + i) = C (3 * i + 2)
theorem xe_rel_s {c n : Nat} {C M W K : Nat → Int32} {x y z u : Int32} (h : xe_rel c n C M W K) : xe_rel c (n + 1) (xr_up (xr_up (xr_up C (3 * n) x) (3 * n + 1) y) (3 * n + 2) z) (xr_up M (c + n) x) (xr_up W (c + n) y) (xr_up (xr_up K (c + n) u) (c + n) z) := by
  intro i hi
  by_cases hn : i = n
  · subst hn
    simp [xr_up]
  · obtain ⟨h1, h2, h3⟩ := h i (by omega)
    unfold xr_up
    rw [if_neg (by omega), if_neg (by omega), if_neg (by omega), if_neg (by omega), if_neg (by omega), if_neg (by omega), if_neg (by omega), if_neg (by omega), if_neg (by omega), if_neg (by omega), if_neg (by omega), if_neg (by omega), if_neg (by omega)]
    exact ⟨h1, h2, h3⟩
def xe_res (d c : Nat) (I : Nat → Nat → Int32) (J : Nat → Nat → Int64) (Rr : Nat → Nat → Nat) (o : (Nat × xr_Q) ⊕ xr_Q) (r : Option xq_O) : Prop := match o with
  | .inl x => ∃ p C, r = some (some (.int (-1 - Int32.ofNat x.1)), xe_I I p (Int32.ofNat x.1) C, J, Rr)
  | .inr q => ∃ p C, r = qX8_riders_h93 (d + 4) (Int32.ofNat q.2.1) 0 (xe_I I p (-1) C, J, Rr) ∧ xe_rel c q.2.1 C q.2.2.1 q.2.2.2.1 q.2.2.2.2 ∧ c + q.2.1 ≤ 8
section XRJ
variable {d n0 c stop : Nat} {I : Nat → Nat → Int32} {J : Nat → Nat → Int64} {Rr : Nat → Nat → Nat}
set_option maxHeartbeats 4000000 in
theorem xe_lines (hcI : I 94 3 = Int32.ofNat c) (h1 : Rr 94 12 = 99) (h2 : I 94 13 = Int32.ofNat n0) (h3 : I 94 14 = 76) (hn : n0 ≤ 80) (hst : stop = if 76 < n0 then 76 else n0) (hb : ∀ i, i < 80 → -128 ≤ (I 99 i).toInt ∧ (I 99 i).toInt ≤ 127) : ∀ (m k p n : Nat) (C M W K : Nat → Int32), k ≤ m → p + k = stop → c + n ≤ 8 → xe_rel c n C M W K → xe_res d c I J Rr (xr_out c n0 stop (xe_t I n0) k p (0, n, M, W, K)) (qX8_riders_h24 (d + 4) (Int32.ofNat n) 1 (xe_I I p (-1) C, J, Rr))
  | m, k, p, n, C, M, W, K, hkm, hp, hc8, hrel => by
    have hs76 : stop ≤ 76 := by
      rw [hst]
      split <;> omega
    have hsn : stop ≤ n0 := by
      rw [hst]
      split <;> omega
    have hT : ∀ q, stop ≤ q → xe_t I n0 q = -1 := by
      intro q hq
      refine if_neg ?_
      rw [hst] at hq
      split at hq <;> omega
    have em1 : ((-1 : Int32)).toInt = -1 := by decide
    have e3 : (xe_I I p (-1) C, J, Rr).1 94 3 = Int32.ofNat c := hcI
    have e15 : (xe_I I p (-1) C, J, Rr).1 94 15 = Int32.ofNat p := rfl
    have hm3 : (3 : Int32) * Int32.ofNat n = Int32.ofNat (3 * n) := (Int32.ofNat_mul 3 n).symm
    rw [qX8_riders_h24_eq, if_neg (by decide), xe_fine (w := -1) rfl, xb_I1, if_pos rfl, if_neg (by decide), e3, xr_add (by omega), e15, hm3]
    by_cases h8 : c + n = 8
    · rw [if_neg (by rw [h8]; decide), xe_fault (w := -1) rfl, xb_V1, if_pos rfl, xe_I16, xe_h64a (w := Int32.ofNat p) rfl (xr_ne1 (by omega))]
      have ho : ∃ q, xr_out c n0 stop (xe_t I n0) k p (0, n, M, W, K) = .inl (p, q) := by
        cases k with
        | zero => exact ⟨_, by unfold xr_out; rw [if_pos (Or.inr (by show 0 < 2; decide)), show p = stop by omega]⟩
        | succ k =>
          unfold xr_out
          rw [xr_1_0, if_neg (by omega)]
          exact ⟨_, rfl⟩
      obtain ⟨q, ho⟩ := ho
      rw [ho]
      exact ⟨p, C, rfl⟩
    · have hne : ¬ Int32.ofNat (c + n) = 8 := by
        intro z
        have z2 : (Int32.ofNat (c + n)).toInt = (8 : Int32).toInt := by rw [z]
        rw [xt_nat (by omega), show (8 : Int32).toInt = 8 by decide] at z2
        omega
      rw [if_pos hne, xe_readMan (by omega) h1 h2 h3 hn (by omega) hb, xb_V1]
      have hat : ∀ (q : Nat) (C : Nat → Int32), xe_at (xe_I I q (-1) C) Rr n0 q (-1) := fun q C => xe_Iat h1 h2 h3
      unfold xe_man
      by_cases q1 : 49 ≤ (xe_t I n0 p).toInt ∧ (xe_t I n0 p).toInt ≤ 52
      · have hps : p < stop := by
          refine Decidable.byContradiction fun q => ?_
          rw [hT p (by omega)] at q1
          omega
        obtain ⟨k, rfl⟩ : ∃ g, k = g + 1 := ⟨k - 1, by omega⟩
        have o1 : xr_out c n0 stop (xe_t I n0) (k + 1) p (0, n, M, W, K) = xr_out c n0 stop (xe_t I n0) k (p + 1) (1, n, xr_up M (c + n) (xe_t I n0 p - 48), W, K) := by
          rw [xr_out, xr_1_0, if_pos ⟨q1.1, q1.2, by omega⟩]
        rw [o1, if_pos q1]
        by_cases q2 : 49 ≤ (xe_t I n0 (p + 1)).toInt ∧ (xe_t I n0 (p + 1)).toInt ≤ 57
        · have hps : p + 1 < stop := by
            refine Decidable.byContradiction fun q => ?_
            rw [hT (p + 1) (by omega)] at q2
            omega
          obtain ⟨k, rfl⟩ : ∃ g, k = g + 1 := ⟨k - 1, by omega⟩
          have o2 : xr_out c n0 stop (xe_t I n0) (k + 1) (p + 1) (1, n, xr_up M (c + n) (xe_t I n0 p - 48), W, K) = xr_out c n0 stop (xe_t I n0) k (p + 2) (2, n + 1, xr_up M (c + n) (xe_t I n0 p - 48), xr_up W (c + n) (xe_t I n0 (p + 1) - 48), xr_up K (c + n) 0) := by
            rw [xr_out, xr_1_1, if_pos ⟨q2.1, q2.2, by omega⟩]
          rw [o2, if_pos q2]
          have hl := xr_letters (c := c) (n0 := n0) (n := n) (M := xr_up M (c + n) (xe_t I n0 p - 48)) (W := xr_up W (c + n) (xe_t I n0 (p + 1) - 48)) hT hs76 (by omega) (78 - p) k (p + 2) (-1) 0 (xr_up K (c + n) 0) (by omega) (by omega) (if_pos rfl) (Or.inl ⟨rfl, rfl⟩)
          have hrl := xe_run_le (t := xe_t I n0) (78 - p) (p + 2) (-1) 0
          generalize xe_run (xe_t I n0) (78 - p) (p + 2) (-1) 0 = r at hl hrl ⊢
          obtain ⟨r1, r2, r3⟩ := r
          have hrl : r1 ≤ p + 2 + (78 - p) := hrl
          obtain ⟨hl1, hl2⟩ := hl
          cases r3 with
          | true =>
            obtain ⟨q, hq⟩ := hl1 rfl
            rw [hq]
            show xe_res d c I J Rr _ (qX8_riders_h64 (d + 4) _ _ (xe_I I r1 (Int32.ofNat r1) _, J, Rr))
            rw [xe_h64 (w := Int32.ofNat r1) rfl (xr_ne1 (by omega))]
            exact ⟨r1, _, rfl⟩
          | false =>
            obtain ⟨a1, a2, a3, a4⟩ := hl2 rfl
            have a1 : p + 2 ≤ r1 := a1
            have a2 : r1 ≤ stop := a2
            have a3 : ¬ (97 ≤ (xe_t I n0 r1).toInt ∧ (xe_t I n0 r1).toInt ≤ 104) := a3
            have a4 : xr_out c n0 stop (xe_t I n0) k (p + 2) (2, n + 1, xr_up M (c + n) (xe_t I n0 p - 48), xr_up W (c + n) (xe_t I n0 (p + 1) - 48), xr_up K (c + n) 0) = xr_out c n0 stop (xe_t I n0) (stop - r1) r1 (2, n + 1, xr_up M (c + n) (xe_t I n0 p - 48), xr_up W (c + n) (xe_t I n0 (p + 1) - 48), xr_up (xr_up K (c + n) 0) (c + n) r2) := a4
            rw [a4]
            have hr2 := xe_rel_s (x := xe_t I n0 p - 48) (y := xe_t I n0 (p + 1) - 48) (z := r2) (u := 0) hrel
            generalize xr_up M (c + n) (xe_t I n0 p - 48) = M2 at hr2 ⊢
            generalize xr_up W (c + n) (xe_t I n0 (p + 1) - 48) = W2 at hr2 ⊢
            generalize xr_up (xr_up K (c + n) 0) (c + n) r2 = K2 at hr2 ⊢
            show xe_res d c I J Rr _ (qX8_riders_h64 (d + 4) (Int32.ofNat n) 1 (xe_I I r1 (-1) (xr_up (xr_up (xr_up C (3 * n) (xe_t I n0 p - 48)) (3 * n + 1) (xe_t I n0 (p + 1) - 48)) (3 * n + 2) r2), J, Rr))
            generalize xr_up (xr_up (xr_up C (3 * n) (xe_t I n0 p - 48)) (3 * n + 1) (xe_t I n0 (p + 1) - 48)) (3 * n + 2) r2 = C2 at hr2 ⊢
            rw [xe_h64b (hat r1 C2) hn (by omega), xe_It]
            by_cases b1 : xe_t I n0 r1 = 59
            · have hps : r1 < stop := by
                refine Decidable.byContradiction fun q => ?_
                rw [hT r1 (by omega)] at b1
                exact absurd b1 (by decide)
              rw [if_pos b1, xe_I15]
              have o3 : xr_out c n0 stop (xe_t I n0) (stop - r1) r1 (2, n + 1, M2, W2, K2) = xr_out c n0 stop (xe_t I n0) (stop - r1 - 1) (r1 + 1) (0, n + 1, M2, W2, K2) := by
                rw [show stop - r1 = (stop - r1 - 1) + 1 by omega, xr_out, xr_1_2, if_pos b1]
                rfl
              rw [o3]
              match m, hkm with
              | m + 1, hkm => exact xe_lines hcI h1 h2 h3 hn hst hb m (stop - r1 - 1) (r1 + 1) (n + 1) C2 M2 W2 K2 (by omega) (by omega) (by omega) hr2
            · rw [if_neg b1]
              by_cases b2 : n0 ≤ r1
              · rw [if_pos b2]
                have es : stop - r1 = 0 := by omega
                have o3 : xr_out c n0 stop (xe_t I n0) (stop - r1) r1 (2, n + 1, M2, W2, K2) = .inr (2, n + 1, M2, W2, K2) := by
                  rw [es, xr_out, if_neg (fun z => z.elim (fun z => by omega) (fun z => absurd z (by show ¬ 2 < 2; decide)))]
                rw [o3]
                exact ⟨r1, C2, rfl, hr2, by show c + (n + 1) ≤ 8; omega⟩
              · rw [if_neg b2, xe_I16]
                have o3 : ∃ q, xr_out c n0 stop (xe_t I n0) (stop - r1) r1 (2, n + 1, M2, W2, K2) = .inl (r1, q) := by
                  by_cases b3 : stop = r1
                  · refine ⟨(2, n + 1, M2, W2, K2), ?_⟩
                    rw [show stop - r1 = 0 by omega, xr_out, if_pos (Or.inl (by rw [hst] at b3; split at b3 <;> omega)), b3]
                  · rw [show stop - r1 = (stop - r1 - 1) + 1 by omega, xr_out, xr_1_2, if_neg b1, if_neg (fun z => a3 ⟨z.1, z.2.1⟩)]
                    exact ⟨_, rfl⟩
                obtain ⟨q, o3⟩ := o3
                rw [o3]
                exact ⟨r1, C2, rfl⟩
        · rw [if_neg q2]
          show xe_res d c I J Rr _ (qX8_riders_h64 (d + 4) _ _ (xe_I I (p + 1) (Int32.ofNat (p + 1)) _, J, Rr))
          rw [xe_h64 (w := Int32.ofNat (p + 1)) rfl (xr_ne1 (by omega))]
          have ho : ∃ q, xr_out c n0 stop (xe_t I n0) k (p + 1) (1, n, xr_up M (c + n) (xe_t I n0 p - 48), W, K) = .inl (p + 1, q) := by
            cases k with
            | zero => exact ⟨_, by unfold xr_out; rw [if_pos (Or.inr (by show 1 < 2; decide)), show p + 1 = stop by omega]⟩
            | succ k =>
              unfold xr_out
              rw [xr_1_1, if_neg (fun z => q2 ⟨z.1, z.2.1⟩)]
              exact ⟨_, rfl⟩
          obtain ⟨q, ho⟩ := ho
          rw [ho]
          exact ⟨p + 1, _, rfl⟩
      · rw [if_neg q1]
        show xe_res d c I J Rr _ (qX8_riders_h64 (d + 4) _ _ (xe_I I p (Int32.ofNat p) _, J, Rr))
        rw [xe_h64 (w := Int32.ofNat p) rfl (xr_ne1 (by omega))]
        have ho : ∃ q, xr_out c n0 stop (xe_t I n0) k p (0, n, M, W, K) = .inl (p, q) := by
          cases k with
          | zero => exact ⟨_, by unfold xr_out; rw [if_pos (Or.inr (by show 0 < 2; decide)), show p = stop by omega]⟩
          | succ k =>
            unfold xr_out
            rw [xr_1_0, if_neg (fun z => q1 ⟨z.1, z.2.1⟩)]
            exact ⟨_, rfl⟩
        obtain ⟨q, ho⟩ := ho
        rw [ho]
        exact ⟨p, _, rfl⟩
end XRJ
