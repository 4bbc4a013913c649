/-! riders() of the reference, whole -/
theorem xe_Iid {I : Nat → Nat → Int32} {p : Nat} {w : Int32} (h1 : I 94 15 = Int32.ofNat p) (h2 : I 94 16 = w) : xe_I I p w (I 101) = I := by
  funext k j
  unfold xe_I
  grind
/-- the ints that riders() of the reference leaves alone -/
def xe_fr (I I' : Nat → Nat → Int32) : Prop := ∀ k j, ¬ k = 101 → ¬ (k = 94 ∧ (j = 8 ∨ j = 11 ∨ j = 13 ∨ j = 14 ∨ j = 15 ∨ j = 16)) → I' k j = I k j
def xe_fr2 (I I' : Nat → Nat → Int32) : Prop := ∀ k j, ¬ k = 101 → ¬ k = 95 → ¬ k = 96 → ¬ k = 97 → ¬ k = 98 → ¬ (k = 94 ∧ (j = 3 ∨ j = 8 ∨ j = 11 ∨ j = 13 ∨ j = 14 ∨ j = 15 ∨ j = 16 ∨ j = 24 ∨ j = 47)) → I' k j = I k j
def xe_Post (c : Nat) (I : Nat → Nat → Int32) (o : (Nat × xr_Q) ⊕ xr_Q) (a : Int32) (I' : Nat → Nat → Int32) : Prop := match o with
  | .inl x => a = -1 - Int32.ofNat x.1 ∧ xe_fr I I' ∧ I' 94 8 = 0
  | .inr q => a = Int32.ofNat q.2.1 ∧ c + q.2.1 ≤ 8 ∧ xe_fr2 I I' ∧ I' 94 8 = 0 ∧ I' 94 3 = Int32.ofNat (c + q.2.1) ∧ I' 94 24 = 0 ∧ I' 94 47 = I 94 47 + 1 ∧ (∀ r, c ≤ r → r < c + q.2.1 → I' 96 r = q.2.2.1 r ∧ I' 97 r = q.2.2.2.1 r ∧ I' 98 r = q.2.2.2.2 r ∧ I' 95 (8 + r) = 0 ∧ I' 95 (16 + r) = 0) ∧ (∀ r, r < c → I' 96 r = I 96 r ∧ I' 97 r = I 97 r ∧ I' 98 r = I 98 r) ∧ (∀ j, (j < 8 + c ∨ 8 + (c + q.2.1) ≤ j) → (j < 16 + c ∨ 16 + (c + q.2.1) ≤ j) → I' 95 j = I 95 j)
section XRL
variable {d n0 c : Nat} {I : Nat → Nat → Int32} {J : Nat → Nat → Int64} {Rr : Nat → Nat → Nat}
theorem xe_riders (hcI : I 94 3 = Int32.ofNat c) (hn8 : I 94 8 = Int32.ofNat n0) (hc : c ≤ 8) (hn : n0 ≤ 80) (h0 : 0 < n0) (hb : ∀ i, i < 80 → -128 ≤ (I 99 i).toInt ∧ (I 99 i).toInt ≤ 127) (M W K : Nat → Int32) : ∃ a I' R', xq_D xqP (d + 6) 272 [.ref 94] (I, J, Rr) = some (some (.int a), I', J, R') ∧ xe_Post c I (xr_go c n0 (fun p => I 99 p &&& 255) (0, 0, M, W, K)) a I' := by
  have key : xq_D xqP (d + 6) 272 [.ref 94] (I, J, Rr) = (fun I1 R1 => qX8_riders_h24 (d + 5) 0 1 (I1, J, R1)) (xq_upd (xq_upd (xq_upd (xq_upd (xq_upd (xq_upd I 94 11 0) 94 13 (Int32.ofNat n0)) 94 14 76) 94 15 (Int32.ofNat 0)) 94 16 (-1)) 94 8 0) (xq_upd Rr 94 12 99) := by
    rw [qX8_riders_eq, qX8_beginText_eq]
    have e8 : (xq_upd (I, J, Rr).1 94 11 0, (I, J, Rr).2).1 94 8 = Int32.ofNat n0 := by
      show xq_upd I 94 11 0 94 8 = _
      rw [xu_j (by decide), hn8]
    rw [e8, qX8_begin_99_eq, xb_V1, xb_V1]
    have e13 : ¬ (xq_upd (xq_upd (xq_upd (xq_upd (xq_upd (xq_upd I 94 11 0) 94 13 (Int32.ofNat n0)) 94 14 76) 94 15 (Int32.ofNat 0)) 94 16 (-1)) 94 8 0) 94 13 = 0 := by
      rw [xu_j (by decide), xu_j (by decide), xu_j (by decide), xu_j (by decide), xu_t, xt_eq, xt_nat (by omega)]
      simp
      omega
    exact if_pos e13
  rw [key]
  generalize hI1 : xq_upd (xq_upd (xq_upd (xq_upd (xq_upd (xq_upd I 94 11 0) 94 13 (Int32.ofNat n0)) 94 14 76) 94 15 (Int32.ofNat 0)) 94 16 (-1)) 94 8 0 = I1
  generalize hR1 : xq_upd Rr 94 12 99 = R1
  have f0 : ∀ k j, ¬ (k = 94 ∧ (j = 8 ∨ j = 11 ∨ j = 13 ∨ j = 14 ∨ j = 15 ∨ j = 16)) → I1 k j = I k j := by
    intro k j hk
    subst hI1
    grind [xq_upd]
  have r1 : R1 94 12 = 99 := by
    subst hR1
    exact xu_t
  have f3 : I1 94 3 = Int32.ofNat c := (f0 94 3 (by decide)).trans hcI
  have f8 : I1 94 8 = 0 := by
    subst hI1
    exact xu_t
  have f13 : I1 94 13 = Int32.ofNat n0 := by
    subst hI1
    rw [xu_j (by decide), xu_j (by decide), xu_j (by decide), xu_j (by decide), xu_t]
  have f14 : I1 94 14 = 76 := by
    subst hI1
    rw [xu_j (by decide), xu_j (by decide), xu_j (by decide), xu_t]
  have f15 : I1 94 15 = Int32.ofNat 0 := by
    subst hI1
    rw [xu_j (by decide), xu_j (by decide), xu_t]
  have f16 : I1 94 16 = -1 := by
    subst hI1
    rw [xu_j (by decide), xu_t]
  have f99 : ∀ i, I1 99 i = I 99 i := fun i => f0 99 i (by omega)
  have hl := xe_lines (d := d + 1) (I := I1) (J := J) (Rr := R1) (c := c) (n0 := n0) (stop := if 76 < n0 then 76 else n0) f3 r1 f13 f14 hn rfl (fun i hi => by rw [f99]; exact hb i hi) (if 76 < n0 then 76 else n0) (if 76 < n0 then 76 else n0) 0 0 (I1 101) M W K (Nat.le_refl _) (by omega) (by omega) (fun i hi => absurd hi (Nat.not_lt_zero i))
  rw [xe_Iid f15 f16] at hl
  have hgo : xr_go c n0 (fun p => I 99 p &&& 255) (0, 0, M, W, K) = xr_out c n0 (if 76 < n0 then 76 else n0) (xe_t I1 n0) (if 76 < n0 then 76 else n0) 0 (0, 0, M, W, K) := by
    refine xr_out_cg (fun p hp => ?_) _ _ _ (by omega)
    show I 99 p &&& 255 = xe_t I1 n0 p
    unfold xe_t
    rw [if_pos (by split at hp <;> omega), f99]
  rw [hgo]
  generalize xr_out c n0 (if 76 < n0 then 76 else n0) (xe_t I1 n0) (if 76 < n0 then 76 else n0) 0 (0, 0, M, W, K) = o at hl ⊢
  cases o with
  | inl x =>
    obtain ⟨p, C, hx⟩ := hl
    refine ⟨-1 - Int32.ofNat x.1, xe_I I1 p (Int32.ofNat x.1) C, R1, hx, rfl, fun k j h1 h2 => ?_, ?_⟩
    · rw [← f0 k j h2]
      unfold xe_I
      grind
    · rw [← f8]
      unfold xe_I
      rw [if_neg (by decide), if_neg (by decide), if_neg (by decide)]
  | inr q =>
    obtain ⟨p, C, hx, hrel, hc8⟩ := hl
    have e3 : (xe_I I1 p (-1) C) 94 3 = Int32.ofNat (c + 0) := f3
    obtain ⟨I', g0, g1, g2, g3, g4, g5, g6, g7⟩ := xe_h93 (d := d + 5) (J := J) (Rr := R1) (c := c) (n := q.2.1) hc8 q.2.1 0 (xe_I I1 p (-1) C) (by omega) e3
    refine ⟨Int32.ofNat q.2.1, I', R1, hx.trans g0, rfl, hc8, fun k j h1 h2 h3 h4 h5 h6 => ?_, ?_, g1, g5, ?_, ?_, ?_, ?_⟩
    · rw [g7 k j h2 h3 h4 h5 (by grind), ← f0 k j (by grind)]
      unfold xe_I
      grind
    · rw [g7 94 8 (by decide) (by decide) (by decide) (by decide) (by decide), ← f8]
      rfl
    · rw [g6]
      show I1 94 47 + 1 = _
      rw [f0 94 47 (by decide)]
    · intro r h1 h2
      obtain ⟨a1, a2, a3, a4, a5⟩ := g2 (r - c) (by omega) (by omega)
      obtain ⟨b1, b2, b3⟩ := hrel (r - c) (by omega)
      have e : c + (r - c) = r := by omega
      rw [e] at a1 a2 a3 a4 a5 b1 b2 b3
      refine ⟨?_, ?_, ?_, a4, a5⟩
      · rw [a1, b1]
        rfl
      · rw [a2, b2]
        rfl
      · rw [a3, b3]
        rfl
    · intro r hr
      obtain ⟨a1, a2, a3⟩ := g3 r (by omega)
      refine ⟨?_, ?_, ?_⟩
      · rw [a1, ← f0 96 r (by omega)]
        rfl
      · rw [a2, ← f0 97 r (by omega)]
        rfl
      · rw [a3, ← f0 98 r (by omega)]
        rfl
    · intro j h1 h2
      rw [g4 j (by omega) (by omega), ← f0 95 j (by omega)]
      rfl
theorem xe_riders0 (hn8 : I 94 8 = 0) : ∃ I' R', xq_D xqP (d + 4) 272 [.ref 94] (I, J, Rr) = some (some (.int 0), I', J, R') ∧ xe_fr I I' ∧ I' 94 8 = 0 := by
  refine ⟨xq_upd (xq_upd (xq_upd (xq_upd (xq_upd (xq_upd I 94 11 0) 94 13 0) 94 14 76) 94 15 0) 94 16 (-1)) 94 8 0, xq_upd Rr 94 12 99, ?_, fun k j h1 h2 => by grind [xq_upd], xu_t⟩
  rw [qX8_riders_eq, qX8_beginText_eq]
  have e8 : (xq_upd (I, J, Rr).1 94 11 0, (I, J, Rr).2).1 94 8 = 0 := by
    show xq_upd I 94 11 0 94 8 = _
    rw [xu_j (by decide), hn8]
  rw [e8, qX8_begin_99_eq, xb_V1, xb_V1]
  have e13 : (xq_upd (xq_upd (xq_upd (xq_upd (xq_upd (xq_upd I 94 11 0) 94 13 0) 94 14 76) 94 15 0) 94 16 (-1)) 94 8 0) 94 13 = 0 := by
    rw [xu_j (by decide), xu_j (by decide), xu_j (by decide), xu_j (by decide), xu_t]
  exact if_neg (fun q => q e13)
/-! riders() of the class, whole -/
def xc_fr (I I' : Nat → Nat → Int32) : Prop := ∀ k j, ¬ k = 4 → ¬ k = 5 → ¬ k = 6 → ¬ (k = 1 ∧ j = 1) → I' k j = I k j
def xc_fr2 (I I' : Nat → Nat → Int32) : Prop := ∀ k j, ¬ k = 4 → ¬ k = 5 → ¬ k = 6 → ¬ (k = 1 ∧ j = 1) → ¬ (k = 3 ∧ j = 6) → ¬ (k = 24 ∧ j = 2) → ¬ k = 63 → I' k j = I k j
def xc_Post (c : Nat) (I : Nat → Nat → Int32) (o : (Nat × xr_Q) ⊕ xr_Q) (a : Int32) (I' : Nat → Nat → Int32) : Prop := (∀ r, r < c → I' 5 r = I 5 r ∧ I' 6 r = I 6 r ∧ I' 4 r = I 4 r) ∧ match o with
  | .inl x => a = -1 - Int32.ofNat x.1 ∧ xc_fr I I' ∧ I' 1 1 = 0
  | .inr q => a = Int32.ofNat q.2.1 ∧ 0 < q.2.1 ∧ c + q.2.1 ≤ 8 ∧ xc_fr2 I I' ∧ I' 1 1 = 0 ∧ I' 3 6 = Int32.ofNat (c + q.2.1) ∧ I' 24 2 = 0 ∧ I' 63 0 = 0 ∧ I' 63 1 = 0 ∧ ∀ r, I' 5 r = q.2.2.1 r ∧ I' 6 r = q.2.2.2.1 r ∧ I' 4 r = q.2.2.2.2 r
theorem xc_riders (hc : c ≤ 8) (hI : I 3 6 = Int32.ofNat c) (hn : I 1 1 = Int32.ofNat n0) (hn0 : n0 ≤ 80) (h0 : 0 < n0) : ∃ a I', xq_D xqP (d + 4) 158 [.ref 0] (I, J, Rr) = some (some (.int a), I', J, Rr) ∧ xc_Post c I (xr_go c n0 (I 2) (0, 0, I 5, I 6, I 4)) a I' := by
  have h := xr_cls (d := d) (J := J) (Rr := Rr) hc hI hn hn0 h0
  have hlo := xr_out_lo (c := c) (n0 := n0) (stop := if 76 < n0 then 76 else n0) (t := I 2) (if 76 < n0 then 76 else n0) 0 (0, 0, I 5, I 6, I 4) (fun z => absurd z (by show ¬ 2 ≤ 0; decide))
  have hok := xr_out_ok (c := c) (n0 := n0) (stop := if 76 < n0 then 76 else n0) (t := I 2) (if 76 < n0 then 76 else n0) 0 (0, 0, I 5, I 6, I 4)
  unfold xr_go at h ⊢
  generalize xr_out c n0 (if 76 < n0 then 76 else n0) (I 2) (if 76 < n0 then 76 else n0) 0 (0, 0, I 5, I 6, I 4) = o at h hlo hok ⊢
  cases o with
  | inl x =>
    refine ⟨-1 - Int32.ofNat x.1, xq_upd (xr_I I x.2) 1 1 0, h, fun r hr => ?_, rfl, fun k j h1 h2 h3 h4 => ?_, xu_t⟩
    · obtain ⟨b1, b2, b3⟩ := hlo r hr
      exact ⟨by rw [xu_k (by decide)]; exact b1, by rw [xu_k (by decide)]; exact b2, by rw [xu_k (by decide)]; exact b3⟩
    · unfold xq_upd xr_I
      rw [if_neg h4, if_neg h2, if_neg h3, if_neg h1]
  | inr q =>
    obtain ⟨g1, g2, g3⟩ := hok q rfl (by show 0 ≤ 2; decide) (by show c + 0 ≤ 8; omega) (fun z => absurd z (by show ¬ 0 = 2; decide))
    refine ⟨Int32.ofNat q.2.1, xq_upd (xq_upd (xq_upd (xq_upd (xq_upd (xr_I I q) 3 6 (Int32.ofNat c + Int32.ofNat q.2.1)) 1 1 0) 24 2 0) 63 0 0) 63 1 0, h, fun r hr => ?_, rfl, g2, g3, fun k j h1 h2 h3 h4 h5 h6 h7 => ?_, ?_, ?_, ?_, ?_, ?_, fun r => ?_⟩
    · obtain ⟨b1, b2, b3⟩ := hlo r hr
      refine ⟨?_, ?_, ?_⟩
      · rw [xu_k (by decide), xu_k (by decide), xu_k (by decide), xu_k (by decide), xu_k (by decide)]; exact b1
      · rw [xu_k (by decide), xu_k (by decide), xu_k (by decide), xu_k (by decide), xu_k (by decide)]; exact b2
      · rw [xu_k (by decide), xu_k (by decide), xu_k (by decide), xu_k (by decide), xu_k (by decide)]; exact b3
    · unfold xq_upd xr_I
      grind
    · rw [xu_k (by decide), xu_k (by decide), xu_k (by decide), xu_t]
    · rw [xu_k (by decide), xu_k (by decide), xu_k (by decide), xu_k (by decide), xu_t, xr_add (by omega)]
    · rw [xu_k (by decide), xu_k (by decide), xu_t]
    · rw [xu_j (by decide), xu_t]
    · exact xu_t
    · refine ⟨?_, ?_, ?_⟩
      · rw [xu_k (by decide), xu_k (by decide), xu_k (by decide), xu_k (by decide), xu_k (by decide)]; rfl
      · rw [xu_k (by decide), xu_k (by decide), xu_k (by decide), xu_k (by decide), xu_k (by decide)]; rfl
      · rw [xu_k (by decide), xu_k (by decide), xu_k (by decide), xu_k (by decide), xu_k (by decide)]; rfl
theorem xc_riders0 (hn : I 1 1 = 0) : xq_D xqP (d + 2) 158 [.ref 0] (I, J, Rr) = some (some (.int 0), xq_upd I 1 1 0, J, Rr) := by
  have h : xq_D xqP (d + 1) 27 [.ref 3, .ref 1] (I, J, Rr) = some (some (.int 0), I, J, Rr) := by
    rw [qX0_readRiders_eq, if_neg (show ¬ ¬ I 1 1 = 0 from fun q => q hn)]
  exact xr_clsA h (by decide)
end XRL
