/-! riders() of the reference: LINES -/
theorem xr_out_cg {c n0 stop : Nat} {t t' : Nat → Int32} (h : ∀ p, p < stop → t p = t' p) : ∀ (k p : Nat) (q : xr_Q), p + k = stop → xr_out c n0 stop t k p q = xr_out c n0 stop t' k p q
  | 0, p, q, hp => rfl
  | k + 1, p, q, hp => by
    unfold xr_out
    rw [h p (by omega)]
    split
    · rfl
    · exact xr_out_cg h k (p + 1) _ (by omega)
/-- what is below the crew stays -/
theorem xr_1_lo {c : Nat} {s : Int32} {q q' : xr_Q} (h : xr_1 c s q = some q') (h2 : 2 ≤ q.1 → 0 < q.2.1) : (2 ≤ q'.1 → 0 < q'.2.1) ∧ ∀ r, r < c → q'.2.2.1 r = q.2.2.1 r ∧ q'.2.2.2.1 r = q.2.2.2.1 r ∧ q'.2.2.2.2 r = q.2.2.2.2 r := by
  obtain ⟨a, n, M, W, K⟩ := q
  match a, h, h2 with
  | 0, h, _ =>
    rw [xr_1_0] at h
    split at h
    · cases h
      exact ⟨fun z => absurd z (by show ¬ 2 ≤ 1; decide), fun r hr => ⟨if_neg (by omega), rfl, rfl⟩⟩
    · cases h
  | 1, h, _ =>
    rw [xr_1_1] at h
    split at h
    · cases h
      exact ⟨fun _ => Nat.succ_pos n, fun r hr => ⟨rfl, if_neg (by omega), if_neg (by omega)⟩⟩
    · cases h
  | a + 2, h, h2 =>
    have h : (if s = 59 then some (0, n, M, W, K) else if 97 ≤ s.toInt ∧ s.toInt ≤ 104 ∧ 0 < c + n ∧ (K (c + n - 1)).toInt < (xr_bit s).toInt then some (2, n, M, W, xr_up K (c + n - 1) (K (c + n - 1) ||| xr_bit s)) else none) = some q' := h
    have h2 := h2 (by show 2 ≤ a + 2; omega)
    have h2 : 0 < n := h2
    split at h
    · cases h
      exact ⟨fun z => absurd z (by show ¬ 2 ≤ 0; decide), fun r hr => ⟨rfl, rfl, rfl⟩⟩
    · split at h
      · cases h
        exact ⟨fun _ => h2, fun r hr => ⟨rfl, rfl, if_neg (by omega)⟩⟩
      · cases h
def xr_qo (o : (Nat × xr_Q) ⊕ xr_Q) : xr_Q := match o with
  | .inl x => x.2
  | .inr q => q
theorem xr_out_lo {c n0 stop : Nat} {t : Nat → Int32} : ∀ (k p : Nat) (q : xr_Q), (2 ≤ q.1 → 0 < q.2.1) → ∀ r, r < c → (xr_qo (xr_out c n0 stop t k p q)).2.2.1 r = q.2.2.1 r ∧ (xr_qo (xr_out c n0 stop t k p q)).2.2.2.1 r = q.2.2.2.1 r ∧ (xr_qo (xr_out c n0 stop t k p q)).2.2.2.2 r = q.2.2.2.2 r
  | 0, p, q, h2, r, hr => by
    unfold xr_out
    split <;> exact ⟨rfl, rfl, rfl⟩
  | k + 1, p, q, h2, r, hr => by
    unfold xr_out
    split
    · exact ⟨rfl, rfl, rfl⟩
    · rename_i q' hq
      obtain ⟨g1, g2⟩ := xr_1_lo hq h2
      obtain ⟨a1, a2, a3⟩ := xr_out_lo (c := c) (n0 := n0) (stop := stop) (t := t) k (p + 1) q' g1 r hr
      obtain ⟨b1, b2, b3⟩ := g2 r hr
      exact ⟨a1.trans b1, a2.trans b2, a3.trans b3⟩
theorem xr_letters {c n0 stop n : Nat} {T : Nat → Int32} {M W : Nat → Int32} (hT : ∀ p, stop ≤ p → T p = -1) (hs : stop ≤ 76) (hc : c + n < 8) : ∀ (f k p : Nat) (last : Int) (K : Int32) (Kf : Nat → Int32), p + k = stop → k ≤ f → Kf (c + n) = K → xe_la last K → ((xe_run T f p last K).2.2 = true → ∃ q, xr_out c n0 stop T k p (2, n + 1, M, W, Kf) = .inl ((xe_run T f p last K).1, q)) ∧ ((xe_run T f p last K).2.2 = false → p ≤ (xe_run T f p last K).1 ∧ (xe_run T f p last K).1 ≤ stop ∧ ¬ (97 ≤ (T (xe_run T f p last K).1).toInt ∧ (T (xe_run T f p last K).1).toInt ≤ 104) ∧ xr_out c n0 stop T k p (2, n + 1, M, W, Kf) = xr_out c n0 stop T (stop - (xe_run T f p last K).1) (xe_run T f p last K).1 (2, n + 1, M, W, xr_up Kf (c + n) (xe_run T f p last K).2.1))
  | f, k, p, last, K, Kf, hp, hk, hK, hl => by
    have em1 : ((-1 : Int32)).toInt = -1 := by decide
    by_cases hx : 97 ≤ (T p).toInt ∧ (T p).toInt ≤ 104
    · have hps : p < stop := by
        refine Decidable.byContradiction fun q => ?_
        rw [hT p (by omega)] at hx
        omega
      obtain ⟨k, rfl⟩ : ∃ g, k = g + 1 := ⟨k - 1, by omega⟩
      obtain ⟨f, rfl⟩ : ∃ g, f = g + 1 := ⟨f - 1, by omega⟩
      have er : xe_run T (f + 1) p last K = if last < (T p).toInt - 97 then xe_run T f (p + 1) ((T p).toInt - 97) (K ||| xr_bit (T p)) else (p, K, true) := by
        show (if 97 ≤ (T p).toInt ∧ (T p).toInt ≤ 104 then _ else _) = _
        rw [if_pos hx]
      have eo : xr_out c n0 stop T (k + 1) p (2, n + 1, M, W, Kf) = match xr_1 c (T p) (2, n + 1, M, W, Kf) with
        | none => .inl (p, (2, n + 1, M, W, Kf))
        | some q' => xr_out c n0 stop T k (p + 1) q' := rfl
      have e97 : (97 : Int32).toInt = 97 := by decide
      obtain ⟨h, hh⟩ : ∃ h : Nat, (T p).toInt - 97 = (h : Int) := ⟨((T p).toInt - 97).toNat, by omega⟩
      have eh : T p - 97 = Int32.ofNat h := by
        rw [xt_eq, xt_sub (by rw [e97]; omega) (by rw [e97]; omega), e97, xt_nat (by omega), hh]
      have eb : xr_bit (T p) = (1 : Int32) <<< (Int32.ofNat h &&& 31) := by
        unfold xr_bit
        rw [eh]
      have hlt := xe_lt (h := h) hl (by omega)
      rw [← eb] at hlt
      have ex : xr_1 c (T p) (2, n + 1, M, W, Kf) = if (Kf (c + n)).toInt < (xr_bit (T p)).toInt then some (2, n + 1, M, W, xr_up Kf (c + n) (Kf (c + n) ||| xr_bit (T p))) else none := by
        rw [xr_1_2, if_neg (by intro q; rw [q] at hx; exact absurd hx.1 (by decide)), show c + (n + 1) - 1 = c + n by omega]
        by_cases g : (Kf (c + n)).toInt < (xr_bit (T p)).toInt
        · rw [if_pos g, if_pos ⟨hx.1, hx.2, by omega, g⟩]
        · rw [if_neg g, if_neg (fun z => g z.2.2.2)]
      rw [er, eo, ex, hK]
      by_cases g : last < (T p).toInt - 97
      · rw [if_pos g, if_pos (hlt.mp (by omega))]
        obtain ⟨i1, i2⟩ := xr_letters hT hs hc f k (p + 1) ((T p).toInt - 97) (K ||| xr_bit (T p)) (xr_up Kf (c + n) (K ||| xr_bit (T p))) (by omega) (by omega) (if_pos rfl) (by rw [eb, hh]; exact xe_la1 hl (by omega) (by omega))
        refine ⟨i1, fun h9 => ?_⟩
        obtain ⟨j1, j2, j3, j4⟩ := i2 h9
        rw [xr_up_up] at j4
        exact ⟨by omega, j2, j3, j4⟩
      · rw [if_neg g, if_neg (fun z => g (by have := hlt.mpr z; omega))]
        exact ⟨fun _ => ⟨_, rfl⟩, fun h9 => (by cases h9)⟩
    · have er : xe_run T f p last K = (p, K, false) := by
        cases f with
        | zero => rfl
        | succ f =>
          show (if 97 ≤ (T p).toInt ∧ (T p).toInt ≤ 104 then _ else _) = _
          rw [if_neg hx]
      rw [er]
      refine ⟨fun h9 => (by cases h9), fun _ => ⟨Nat.le_refl _, (by show p ≤ stop; omega), hx, ?_⟩⟩
      show _ = xr_out c n0 stop T (stop - p) p (2, n + 1, M, W, xr_up Kf (c + n) K)
      rw [xr_up_id hK, show stop - p = k by omega]
section XRI
variable {d n0 c stop : Nat} {I : Nat → Nat → Int32} {J : Nat → Nat → Int64} {Rr : Nat → Nat → Nat}
theorem xe_wr0 {w : Int32} (h : I 94 16 = w) (hw : ¬ w = -1) : xq_D xqP (d + 3) 297 [.ref 94] (I, J, Rr) = some (some (.int 0), I, J, Rr) := by
  rw [qX8_wasRight_eq, xe_fine h, xe_fault h, xb_V1, if_neg hw, if_neg hw, xe_fine h, if_neg hw, xb_I1, if_pos (Or.inl rfl)]
  exact ite_self _
theorem xe_wr1 {p : Nat} (h : I 94 16 = -1) (h2 : I 94 13 = Int32.ofNat n0) (h4 : I 94 15 = Int32.ofNat p) (hn : n0 ≤ 80) (hp : p ≤ 80) : xq_D xqP (d + 3) 297 [.ref 94] (I, J, Rr) = if n0 ≤ p then some (some (.int 1), I, J, Rr) else some (some (.int 0), xq_upd I 94 16 (Int32.ofNat p), J, Rr) := by
  have k2 : (I, J, Rr).1 94 13 = Int32.ofNat n0 := h2
  have k4 : (I, J, Rr).1 94 15 = Int32.ofNat p := h4
  have hx : (xq_upd I 94 16 (Int32.ofNat p)) 94 16 = Int32.ofNat p := xu_t
  rw [qX8_wasRight_eq, k2, k4, xe_fine h, xe_fault h, xb_V1, if_pos rfl, if_pos rfl, xe_fine hx, if_neg (xr_ne1 (by omega)), xb_I1, xb_I1, if_pos (Or.inr rfl), if_pos (Or.inl rfl)]
  by_cases hq : n0 ≤ p
  · rw [if_pos hq, if_pos ((xr_le (by omega) (by omega)).mpr hq)]
  · rw [if_neg hq, if_neg (fun z => hq ((xr_le (by omega) (by omega)).mp z))]
theorem xe_h77 {v1 v2 w : Int32} (h : I 94 16 = w) (hw : ¬ w = -1) : qX8_riders_h77 (d + 3) v1 v2 (I, J, Rr) = some (some (.int (-1 - w)), I, J, Rr) := by
  have k : (I, J, Rr).1 94 16 = w := h
  rw [qX8_riders_h77_eq, xe_wr0 h hw, xb_I1, if_neg (by decide), k]
theorem xe_h64 {v1 v2 w : Int32} (h : I 94 16 = w) (hw : ¬ w = -1) : qX8_riders_h64 (d + 3) v1 v2 (I, J, Rr) = some (some (.int (-1 - w)), I, J, Rr) := by
  rw [qX8_riders_h64_eq, xe_pass0 h hw, xb_I1, qX8_riders_h24_eq, if_pos rfl, xe_h77 h hw]
theorem xe_h64a {v1 w : Int32} (h : I 94 16 = w) (hw : ¬ w = -1) : qX8_riders_h64a (d + 3) v1 (I, J, Rr) = some (some (.int (-1 - w)), I, J, Rr) := by
  rw [qX8_riders_h64a_eq, xe_pass0 h hw, xb_I1, qX8_riders_h24_eq, if_pos rfl, xe_h77 h hw]
/-- behind a LINE's letters -/
theorem xe_h64b {p n : Nat} {v2 : Int32} (h : xe_at I Rr n0 p (-1)) (hn : n0 ≤ 80) (hp : p ≤ 80) : qX8_riders_h64 (d + 3) (Int32.ofNat n) v2 (I, J, Rr) = if xe_t I n0 p = 59 then qX8_riders_h24 (d + 3) (Int32.ofNat (n + 1)) 1 (xq_upd I 94 15 (Int32.ofNat (p + 1)), J, Rr) else if n0 ≤ p then qX8_riders_h93 (d + 3) (Int32.ofNat (n + 1)) 0 (I, J, Rr) else some (some (.int (-1 - Int32.ofNat p)), xq_upd I 94 16 (Int32.ofNat p), J, Rr) := by
  have f1 : Int32.ofNat n + (1 : Int32) = Int32.ofNat (n + 1) := (Int32.ofNat_add n 1).symm
  rw [qX8_riders_h64_eq, xe_pass h hn hp, xb_I1, f1]
  by_cases q : xe_t I n0 p = 59
  · rw [if_pos q, if_pos q, if_pos q]
  · rw [if_neg q, if_neg q, if_neg q, qX8_riders_h24_eq, if_pos rfl, qX8_riders_h77_eq, xe_wr1 h.2.2.2.2 h.2.1 h.2.2.2.1 hn hp]
    by_cases g : n0 ≤ p
    · rw [if_pos g, if_pos g, xb_I1, if_pos (by decide)]
    · rw [if_neg g, if_neg g, xb_I1, if_neg (by decide)]
      have hx : (xq_upd I 94 16 (Int32.ofNat p), J, Rr).1 94 16 = Int32.ofNat p := by
        show xq_upd I 94 16 (Int32.ofNat p) 94 16 = _
        exact xu_t
      rw [hx]
end XRI
