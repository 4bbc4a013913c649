/-! THE RULE: both, whole -/
def yg_pm (k : Nat) : Nat := if 10 ≤ k ∧ k ≤ 14 then k + 73 else if 83 ≤ k ∧ k ≤ 87 then k - 73 else k
theorem xr_nat_inj {a b : Nat} (ha : a ≤ 1000) (hb : b ≤ 1000) (h : Int32.ofNat a = Int32.ofNat b) : a = b := by
  have := congrArg Int32.toInt h
  rw [xt_nat (by omega), xt_nat (by omega)] at this
  omega
section YGE
variable {d n0 : Nat} {I : Nat → Nat → Int32} {J : Nat → Nat → Int64} {R : Nat → Nat → Nat} {T : Nat → Int32}
/-- the class's reading of THE TEXT, whatever the things are -/
theorem yg_read (h11 : I 1 1 = Int32.ofNat n0) (hn0 : n0 ≤ 80) (hT : ∀ i, i < n0 → i < 40 → I 2 i = T i ∧ 0 ≤ (T i).toInt ∧ (T i).toInt ≤ 255) : ∃ a I', xq_D xqP (d + 6) 51 [.ref 83, .ref 1] (I, J, R) = some (some (.int a), I', J, R) ∧ yg_fr I I' ∧ (n0 = 0 → a = -1 ∧ ∃ sz, I' 83 4 = Int32.ofNat sz ∧ sz ≤ 40 ∧ ∀ e, yk_evl e (yv_c (I' 84) sz) = [yg_v1 e]) ∧ (0 < n0 → ∀ e, yg_R e (yk_o e T n0 (if 40 < n0 then 40 else n0) 0 yk_Q0) a I') := by
  have hI : (I, J, R).1 1 1 = Int32.ofNat n0 := h11
  rw [qX3_read_83_eq, hI]
  by_cases hz : n0 = 0
  · subst hz
    rw [if_neg (fun z => z rfl), qX3_readFirst_83_eq]
    obtain ⟨I1, b0, b1, b2⟩ := yg_begin (d := d + 3) (I := I) (J := J) (R := R)
    rw [b0, xb_V1]
    obtain ⟨Q, q1, q2⟩ := yg_run1 (e := fun _ => 0)
    obtain ⟨I', x1, x2, sz, x3, x4, x5⟩ := yg_first (d := d) (J := J) (R := R) 11 0 0 yk_Q0 Q I1 (by omega) q1 (b2 _) (Nat.le_refl _)
    have x1 : qX3_readFirst_83_h6 (d + 4) (0 : Int32) (I1, J, R) = some (none, I', J, R) := x1
    rw [x1, xb_V1]
    refine ⟨-1, I', rfl, fun k j hk => (x2 k j hk).trans (b1 k j hk), fun _ => ⟨rfl, sz, x3, x4, fun e => ?_⟩, fun z => absurd z (by omega)⟩
    obtain ⟨Q', q1', q2'⟩ := yg_run1 (e := e)
    obtain ⟨I2, y1, y2, sz2, y3, y4, y5⟩ := yg_first (d := d) (J := J) (R := R) 11 0 0 yk_Q0 Q' I1 (by omega) q1' (b2 _) (Nat.le_refl _)
    have y1 : qX3_readFirst_83_h6 (d + 4) (0 : Int32) (I1, J, R) = some (none, I2, J, R) := y1
    rw [x1] at y1
    have ei : I' = I2 := by
      have := Option.some.inj y1
      exact (Prod.mk.inj (Prod.mk.inj this).2).1
    subst ei
    rw [x3] at y3
    have := xr_nat_inj (by omega) (by omega) y3
    subst this
    rw [y5, q2']
  · have hne : ¬ Int32.ofNat n0 = 0 := fun z => hz (xr_nat_inj (b := 0) (by omega) (by omega) z)
    rw [if_pos hne]
    obtain ⟨I1, b0, b1, b2⟩ := yg_begin (d := d + 4) (I := I) (J := J) (R := R)
    rw [b0, xb_V1]
    have f11 : I1 1 1 = Int32.ofNat n0 := (b1 1 1 (by omega)).trans h11
    have f11' : (I1, J, R).1 1 1 = Int32.ofNat n0 := f11
    have l40 : ((40 : Int32) < Int32.ofNat n0) ↔ 40 < n0 := xr_lt (a := 40) (b := n0) (by omega) (by omega)
    have est : (if (40 : Int32) < Int32.ofNat n0 then (40 : Int32) else Int32.ofNat n0) = Int32.ofNat (if 40 < n0 then 40 else n0) := by
      by_cases g : 40 < n0
      · rw [if_pos (l40.mpr g), if_pos g]
        rfl
      · rw [if_neg (fun z => g (l40.mp z)), if_neg g]
    rw [f11', est]
    generalize hst : (if 40 < n0 then 40 else n0) = stop
    have hT1 : ∀ i, i < stop → I1 2 i = T i ∧ 0 ≤ (T i).toInt ∧ (T i).toInt ≤ 255 := fun i hi => by
      have hs : stop ≤ n0 ∧ stop ≤ 40 := by
        rw [← hst]
        split <;> omega
      obtain ⟨x1, x2⟩ := hT i (by omega) (by omega)
      exact ⟨(b1 2 i (by omega)).trans x1, x2⟩
    obtain ⟨a, I', x1, x2, x3⟩ := yg_loop (d := d + 1) (e := fun _ => 0) (J := J) (R := R) hst.symm hn0 stop 0 0 yk_Q0 I1 (by omega) f11 hT1 (b2 _) (Nat.le_refl _)
    have x1 : qX3_read_83_h29 (d + 5) (Int32.ofNat stop) (0 : Int32) (I1, J, R) = some (some (.int a), I', J, R) := x1
    refine ⟨a, I', x1, fun k j hk => (x2 k j hk).trans (b1 k j hk), fun z => absurd z hz, fun _ e => ?_⟩
    obtain ⟨a2, I2, y1, y2, y3⟩ := yg_loop (d := d + 1) (e := e) (J := J) (R := R) hst.symm hn0 stop 0 0 yk_Q0 I1 (by omega) f11 hT1 (b2 _) (Nat.le_refl _)
    have y1 : qX3_read_83_h29 (d + 5) (Int32.ofNat stop) (0 : Int32) (I1, J, R) = some (some (.int a2), I2, J, R) := y1
    rw [x1] at y1
    have y1 := Option.some.inj y1
    have ei : I' = I2 := (Prod.mk.inj (Prod.mk.inj y1).2).1
    have ea : a = a2 := Value.int.inj (Option.some.inj (Prod.mk.inj y1).1)
    subst ei
    subst ea
    exact y3
/-- a text that can be read has a value, whatever the things are -/
theorem yok_all {e : Nat → Int32} {stop : Nat} {Q : yk_Q} (hn0 : n0 ≤ 80) (hb : ∀ i, i < n0 → -128 ≤ (I 99 i).toInt ∧ (I 99 i).toInt ≤ 127) (hst : stop = if 40 < n0 then 40 else n0) (h : yk_o e (yk_t I 99 n0 40) n0 stop 0 yk_Q0 = .inr Q) : ∃ v, yk_fl 1 Q.2.2.2.2.2 Q.2.2.2.2.1 = ([], [v]) := by
  generalize hI9 : (fun k j => if k = 104 then e j else if k = 94 ∧ j = 13 then Int32.ofNat n0 else if k = 94 ∧ j = 14 then 40 else if k = 94 ∧ j = 15 then 0 else if k = 94 ∧ j = 16 then -1 else if k = 94 ∧ j = 21 then 1 else I k j : Nat → Nat → Int32) = I9
  have f99 : ∀ i, I9 99 i = I 99 i := fun i => by rw [← hI9]; rfl
  have hH : yk_H I9 (fun _ _ => 99) 99 n0 40 := ⟨Or.inl ⟨rfl, hn0⟩, rfl, by rw [← hI9]; rfl, by rw [← hI9]; rfl, by decide, fun i hi => by rw [f99]; exact hb i hi⟩
  obtain ⟨v, p, w, g1, g2, g3⟩ := yr_held0 (d := 0) (J := fun _ _ => 0) (e := e) hH hst (fun i _ => by rw [← hI9]; rfl) (by rw [← hI9]; rfl) (by rw [← hI9]; rfl)
  have et : yk_t I9 99 n0 40 = yk_t I 99 n0 40 := by
    funext p
    unfold yk_t
    rw [f99]
  rw [et] at g3
  rcases g3 with ⟨-, g⟩ | ⟨-, g, g'⟩
  · rw [h] at g
    cases g
  · by_cases hp : p < n0
    · have := g hp
      rw [h] at this
      cases this
    · obtain ⟨Q', k1, k2⟩ := g' (by omega)
      rw [h] at k1
      cases k1
      exact ⟨v, k2⟩
/-- what the class's rule() makes -/
theorem yg_rule_c (h11 : I 1 1 = Int32.ofNat n0) (hn0 : n0 ≤ 80) (hT : ∀ i, i < n0 → i < 40 → I 2 i = T i ∧ 0 ≤ (T i).toInt ∧ (T i).toInt ≤ 255) (hR : R 3 9 = 10) (hR2 : R 0 14 = 83) : ∃ a a0 I' R', xq_D xqP (d + 8) 163 [.ref 0] (I, J, R) = some (some (.int a), I', J, R') ∧ (∀ k j, ¬ (83 ≤ k ∧ k ≤ 87) → ¬ (k = 1 ∧ j = 1) → I' k j = I k j) ∧ I' 1 1 = 0 ∧ ((a0 = -1 ∧ a = 0) ∨ (¬ a0 = -1 ∧ a = -1 - a0)) ∧ (n0 = 0 → a0 = -1 ∧ ∃ sz, I' 83 4 = Int32.ofNat sz ∧ sz ≤ 40 ∧ ∀ e, yk_evl e (yv_c (I' 84) sz) = [yg_v1 e]) ∧ (0 < n0 → ∀ e, yg_R e (yk_o e T n0 (if 40 < n0 then 40 else n0) 0 yk_Q0) a0 I') := by
  obtain ⟨a0, I1, x1, x2, x3, x4⟩ := yg_read (d := d) (J := J) (R := R) h11 hn0 hT
  have hR2' : (I, J, R).2.2 0 14 = 83 := hR2
  have hs : xq_D xqP (d + 7) 155 [.ref 0] (I, J, R) = some (some (.int a0), xq_upd I1 1 1 0, J, R) := by
    rw [qX7_readSpare_eq, hR2', if_neg (by decide), if_pos rfl, x1, xb_I1, qX6_empty_eq, xb_V1]
  have f84 : xq_upd I1 1 1 0 84 = I1 84 := funext fun j => xu_k (by decide)
  have tail : ∀ e, yg_R e (yk_o e T n0 (if 40 < n0 then 40 else n0) 0 yk_Q0) a0 I1 → yg_R e (yk_o e T n0 (if 40 < n0 then 40 else n0) 0 yk_Q0) a0 (xq_upd I1 1 1 0) := by
    intro e
    generalize yk_o e T n0 (if 40 < n0 then 40 else n0) 0 yk_Q0 = o
    intro hy
    cases o with
    | inl p => exact hy
    | inr Q =>
      obtain ⟨y1, sz, y2, y3, y4⟩ := hy
      exact ⟨y1, sz, by rw [xu_k (by decide)]; exact y2, y3, by rw [f84]; exact y4⟩
  have post : (∀ k j, ¬ (83 ≤ k ∧ k ≤ 87) → ¬ (k = 1 ∧ j = 1) → xq_upd I1 1 1 0 k j = I k j) ∧ xq_upd I1 1 1 0 1 1 = 0 ∧ (n0 = 0 → a0 = -1 ∧ ∃ sz, xq_upd I1 1 1 0 83 4 = Int32.ofNat sz ∧ sz ≤ 40 ∧ ∀ e, yk_evl e (yv_c (xq_upd I1 1 1 0 84) sz) = [yg_v1 e]) ∧ (0 < n0 → ∀ e, yg_R e (yk_o e T n0 (if 40 < n0 then 40 else n0) 0 yk_Q0) a0 (xq_upd I1 1 1 0)) := by
    refine ⟨fun k j h1 h2 => by rw [xq_upd_n h2]; exact x2 k j h1, xu_t, fun z => ?_, fun z e => tail e (x4 z e)⟩
    obtain ⟨y1, sz, y2, y3, y4⟩ := x3 z
    exact ⟨y1, sz, by rw [xu_k (by decide)]; exact y2, y3, fun e => by rw [f84]; exact y4 e⟩
  rw [qX7_rule_eq, hs, xb_I1]
  by_cases g : a0 = -1
  · have k1 : (xq_upd I1 1 1 0, J, R).2.2 3 9 = 10 := hR
    have k2 : (xq_upd I1 1 1 0, J, R).2.2 0 14 = 83 := hR2
    rw [if_pos g, k1, if_neg (by decide), if_pos rfl, k2, if_neg (by decide), if_pos rfl]
    exact ⟨0, a0, _, _, rfl, post.1, post.2.1, Or.inl ⟨g, rfl⟩, post.2.2.1, post.2.2.2⟩
  · rw [if_neg g]
    exact ⟨-1 - a0, a0, _, _, rfl, post.1, post.2.1, Or.inr ⟨g, rfl⟩, post.2.2.1, post.2.2.2⟩
/-- the reference's copy of a text -/
theorem yr_copy {n : Nat} (hn : n ≤ 40) (hR : R 94 18 = 102) : ∀ (m i : Nat) (I : Nat → Nat → Int32), i + m = n → ∃ I', qX8_rule_h26 d (Int32.ofNat n) (Int32.ofNat i) (I, J, R) = some (some (.int 0), I', J, R) ∧ I' 94 20 = Int32.ofNat n ∧ (∀ k j, ¬ k = 102 → ¬ (k = 94 ∧ j = 20) → I' k j = I k j) ∧ (∀ j, i ≤ j → j < n → I' 102 j = vp_nar .byte (I 99 j)) ∧ ∀ j, j < i → I' 102 j = I 102 j
  | 0, i, I, hi => by
    refine ⟨xq_upd I 94 20 (Int32.ofNat n), ?_, xu_t, fun k j h1 h2 => xq_upd_n h2, fun j h1 h2 => by omega, fun j _ => xu_k (by decide)⟩
    rw [qX8_rule_h26_eq, if_pos ((xr_le (by omega) (by omega)).mpr (by omega))]
  | m + 1, i, I, hi => by
    have b1 := xt_nat (n := i) (by omega)
    have b2 : (Int32.ofNat i).toInt.toNat = i := by omega
    have a1 : Int32.ofNat i + (1 : Int32) = Int32.ofNat (i + 1) := (Int32.ofNat_add i 1).symm
    have hR' : (I, J, R).2.2 94 18 = 102 := hR
    rw [qX8_rule_h26_eq, if_neg (fun z => by have := (xr_le (by omega) (by omega)).mp z; omega), hR', if_neg (by decide), if_pos rfl, b2, b1, if_pos (by omega), if_pos (by omega), a1]
    obtain ⟨I', x1, x2, x3, x4, x5⟩ := yr_copy hn hR m (i + 1) (xq_upd I 102 i (vp_nar .byte (I 99 i))) (by omega)
    refine ⟨I', x1, x2, fun k j h1 h2 => (x3 k j h1 h2).trans (xu_k h1), fun j h1 h2 => ?_, fun j h => ?_⟩
    · by_cases g : j = i
      · subst g
        rw [x5 j (by omega), xu_t]
      · rw [x4 j (by omega) h2, xu_k (by decide)]
    · rw [x5 j (by omega), xu_j (by omega)]
end YGE
