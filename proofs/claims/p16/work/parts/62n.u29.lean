/-! OBSERVERS: what both rest on -/
def yIc (n c q : Nat) (be : Int32) (CC : List Int32) (ca mo wi : Nat → Int32) (I : Nat → Nat → Int32) : Prop := I 3 7 = Int32.ofNat n ∧ I 3 6 = Int32.ofNat c ∧ I 3 8 = be ∧ I 10 4 = Int32.ofNat q ∧ yv_c (I 11) q = CC ∧ ∀ r, r < c → I 4 r = ca r ∧ I 5 r = mo r ∧ I 6 r = wi r
def yIr (n c n0 : Nat) (be : Int32) (T : Nat → Int32) (ca mo wi : Nat → Int32) (I : Nat → Nat → Int32) (R : Nat → Nat → Nat) : Prop := I 94 1 = Int32.ofNat n ∧ I 94 3 = Int32.ofNat c ∧ I 94 20 = Int32.ofNat n0 ∧ I 94 21 = 0 ∧ R 94 18 = 102 ∧ (∀ i, i < 40 → -128 ≤ (I 102 i).toInt ∧ (I 102 i).toInt ≤ 127) ∧ yk_t I 102 n0 40 = T ∧ I 94 2 = be ∧ ∀ r, r < 8 → I 98 r = ca r ∧ I 96 r = mo r ∧ I 97 r = wi r
section YU29
variable {d c n q n0 : Nat} {I I' : Nat → Nat → Int32} {J : Nat → Nat → Int64} {R R' : Nat → Nat → Nat} {val : (Nat → Int32) → Int32} {CC : List Int32} {T : Nat → Int32} {be : Int32} {ca mo wi : Nat → Int32} {x : Int32} {S : xq_S}
theorem yIc_fr (h : ∀ k j, (k = 3 ∧ (j = 6 ∨ j = 7 ∨ j = 8)) ∨ (k = 10 ∧ j = 4) ∨ k = 11 ∨ (4 ≤ k ∧ k ≤ 6) → I' k j = I k j) (hI : yIc n c q be CC ca mo wi I) : yIc n c q be CC ca mo wi I' := by
  obtain ⟨h1, h2, h3, h4, h5, h6⟩ := hI
  refine ⟨(h 3 7 (by decide)).trans h1, (h 3 6 (by decide)).trans h2, (h 3 8 (by decide)).trans h3, (h 10 4 (by decide)).trans h4, ?_, fun r hr => ?_⟩
  · rw [show I' 11 = I 11 from funext fun j => h 11 j (by omega)]
    exact h5
  · rw [h 4 r (by omega), h 5 r (by omega), h 6 r (by omega)]
    exact h6 r hr
theorem yIr_fr (h : ∀ k j, (k = 94 ∧ (j = 1 ∨ j = 2 ∨ j = 3 ∨ j = 20 ∨ j = 21)) ∨ k = 102 ∨ (96 ≤ k ∧ k ≤ 98) → I' k j = I k j) (hR : ∀ k j, ¬ (k = 94 ∧ j = 12) → R' k j = R k j) (hI : yIr n c n0 be T ca mo wi I R) : yIr n c n0 be T ca mo wi I' R' := by
  obtain ⟨h1, h2, h3, h4, h5, h6, h7, h8, h9⟩ := hI
  refine ⟨(h 94 1 (by decide)).trans h1, (h 94 3 (by decide)).trans h2, (h 94 20 (by decide)).trans h3, (h 94 21 (by decide)).trans h4, (hR 94 18 (by decide)).trans h5, fun i hi => ?_, ?_, (h 94 2 (by decide)).trans h8, fun r hr => ?_⟩
  · rw [h 102 i (by omega)]
    exact h6 i hi
  · rw [← h7]
    funext p
    unfold yk_t
    rw [h 102 p (by omega)]
  · rw [h 98 r (by omega), h 96 r (by omega), h 97 r (by omega)]
    exact h9 r hr
theorem yOpen (hF : yF I) (hB : yBG I) : ∃ c n q n0 val, yV I c n ∧ q ≤ 40 ∧ n0 ≤ 40 ∧ yLv (yv_c (I 11) q) (yk_t I 102 n0 40) n0 val ∧ yIc n c q (I 3 8) (yv_c (I 11) q) (I 98) (I 96) (I 97) I ∧ yq_w c (yq_s I 15) ∧ ∀ (I1 : Nat → Nat → Int32) (R : Nat → Nat → Nat), (∀ k j, xv k j = true → 94 ≤ k → ¬ (k = 94 ∧ j = 11) → I1 k j = I k j) → R 94 18 = 102 → yIr n c n0 (I 3 8) (yk_t I 102 n0 40) (I 98) (I 96) (I 97) I1 R ∧ ∀ i, i < 27 → I1 95 i = yq_s I 15 i := by
  obtain ⟨c, n, hV⟩ := yV_of hF hB.1
  obtain ⟨v1, v2, v3, v4, v5, v6, v7, v8, v9, v10, v11⟩ := id hV
  obtain ⟨q, n0, val, l1, l2, l3, l4, hL⟩ := yLv_of hF.2.2.1
  refine ⟨c, n, q, n0, val, hV, l2, l4, hL, ⟨v4, v1, rfl, l1, rfl, v9⟩, yq_w_cg (fun i hi => (v10 i hi).symm) v11, fun I1 R g hR => ?_⟩
  have x102 : ∀ i, i < 40 → xv 102 i = true := fun i hi => xt_xv xL9 (Or.inr ⟨40, by decide, hi⟩)
  have x98 : ∀ i, i < 8 → xv 98 i = true ∧ xv 96 i = true ∧ xv 97 i = true := fun i hi => ⟨xt_xv xP9 (Or.inr ⟨8, by decide, hi⟩), xt_xv xP9 (Or.inr ⟨8, by decide, hi⟩), xt_xv xP9 (Or.inr ⟨8, by decide, hi⟩)⟩
  have e0 : (0 : Int32).toInt = 0 := by decide
  have h21 : I 94 21 = 0 := by
    obtain ⟨h1, h2⟩ := hB.1.1.2.2.2.2.2.2.1
    rw [xt_eq, e0]
    omega
  have g94 : ∀ j, xv 94 j = true → ¬ j = 11 → I1 94 j = I 94 j := fun j h1 h2 => g 94 j h1 (by decide) (by omega)
  refine ⟨⟨(g94 1 rfl (by decide)).trans v5, (g94 3 rfl (by decide)).trans v2, (g94 20 rfl (by decide)).trans l3, (g94 21 rfl (by decide)).trans h21, hR, fun i hi => ?_, ?_, (g94 2 rfl (by decide)).trans v8, fun r hr => ⟨g 98 r (x98 r hr).1 (by decide) (by omega), g 96 r (x98 r hr).2.1 (by decide) (by omega), g 97 r (x98 r hr).2.2 (by decide) (by omega)⟩⟩, fun i hi => (g 95 i (y95_xv hi) (by decide) (by omega)).trans (v10 i hi)⟩
  · rw [g 102 i (x102 i hi) (by decide) (by omega)]
    exact hB.1.1.2.2.2.2.2.2.2.2.2 i hi
  · funext p
    unfold yk_t
    by_cases hp : p < n0 ∧ p < 40
    · rw [if_pos hp, if_pos hp, g 102 p (x102 p hp.2) (by decide) (by omega)]
    · rw [if_neg hp, if_neg hp]
/-- a NIGHT of dream, of then -/
theorem yS21 (hn : n ≤ 8) (hc : c ≤ 8) (hq : q ≤ 40) (hR : R 3 9 = 10) (hL : yLv CC T n0 val) (hI : yIc n c q be CC ca mo wi I) (hw : yq_w c (yq_s I 21)) : ∃ I', xq_D xqP (d + 5) 25 [.ref 3, .ref 21] (I, J, R) = some (none, I', J, R) ∧ (∀ i, i < 27 → yq_s I' 21 i = yNt n c be ca mo wi val (yq_s I 21) i) ∧ I' 3 10 = (yNg n be ca mo wi (yq_s I 21)).1 ∧ yIc n c q be CC ca mo wi I' ∧ yq_w c (yq_s I' 21) ∧ ∀ k j, 14 ≤ k → ¬ (21 ≤ k ∧ k ≤ 23) → I' k j = I k j := by
  obtain ⟨h1, h2, h3, h4, h5, h6⟩ := id hI
  obtain ⟨I', g0, g1, g2, -, g4⟩ := yNc21 (d := d) (J := J) hn hc hq hR h1 h2 h4 (by rw [h5]; exact hL) h6 hw
  rw [h3] at g1 g2
  exact ⟨I', g0, g1, g2, yIc_fr (fun k j h => g4 k j (by omega) (by omega) (by omega) (by omega) (by omega) (by omega) (by omega)) hI, yq_w_cg g1 (yNt_w hc hn hw), fun k j a b => g4 k j (by omega) (by omega) (by omega) (by omega) (by omega) (by omega) (by omega)⟩
theorem yS107 (hn : n ≤ 8) (hc : c ≤ 8) (hn0 : n0 ≤ 40) (hL : yLv CC T n0 val) (hI : yIr n c n0 be T ca mo wi I R) (hw : yq_w c (I 107)) : ∃ I' R', xq_D xqP (d + 174) 220 [.ref 94, .ref 107] (I, J, R) = some (none, I', J, R') ∧ (∀ i, i < 27 → I' 107 i = yNt n c be ca mo wi val (I 107) i) ∧ I' 94 27 = (yNg n be ca mo wi (I 107)).1 ∧ yIr n c n0 be T ca mo wi I' R' ∧ yq_w c (I' 107) ∧ (∀ i, I' 95 i = I 95 i) := by
  obtain ⟨h1, h2, h3, h4, h5, h6, h7, h8, h9⟩ := id hI
  obtain ⟨I', R', g0, g1, g2, -, g4, g5⟩ := yNr107 (d := d) (J := J) hn hc hn0 ⟨h1, h2, h3, h4, h5, h6, fun i hi => by have := hw.1 i hi; omega⟩ (by rw [h7]; exact hL)
  have g1' : ∀ i, i < 27 → I' 107 i = yNt n c be ca mo wi val (I 107) i := fun i hi => by
    rw [g1 i hi, h8]
    exact yNt_cg hc hn (fun _ _ => rfl) h9 hw i hi
  have g2' : I' 94 27 = (yNg n be ca mo wi (I 107)).1 := by
    rw [g2, h8, yNg_cg (s' := I 107) (ca2 := ca) (mo2 := mo) (wi2 := wi) hc hn (fun _ _ => rfl) h9 hw]
  exact ⟨I', R', g0, g1', g2', yIr_fr (fun k j h => g4 k j (by omega) (by omega) (by omega) (by omega) (by omega)) g5 hI, yq_w_cg g1' (yNt_w hc hn hw), fun i => g4 95 i (by decide) (by decide) (by decide) (by omega) (by omega)⟩
/-- dream, then as now -/
theorem yD_c (hI : yIc n c q be CC ca mo wi I) (hw : yq_w c (yq_s I 15)) : (∀ i, i < 27 → yq_s (yq_cp I 21 15) 21 i = yq_s I 15 i) ∧ yIc n c q be CC ca mo wi (yq_cp I 21 15) ∧ yq_w c (yq_s (yq_cp I 21 15) 21) :=
  ⟨fun i hi => yq_s_cp hi, yIc_fr (fun k j h => yq_cpn (by omega)) hI, yq_w_cg (fun i hi => yq_s_cp hi) hw⟩
theorem yD_r {s : Nat → Int32} (hI : yIr n c n0 be T ca mo wi I R) (hs : ∀ i, i < 27 → I 95 i = s i) (hw : yq_w c s) : ∃ I', xq_D xqP (d + 1) 246 [.ref 95, .ref 107, .int 0] (I, J, R) = some (none, I', J, R) ∧ (∀ i, i < 27 → I' 107 i = s i) ∧ yIr n c n0 be T ca mo wi I' R ∧ yq_w c (I' 107) ∧ ∀ i, i < 27 → I' 95 i = s i := by
  obtain ⟨I', a0, a1, a2, -⟩ := yq_l95_107 (d := d) (J := J) (R := R) (off := 0) (I := I) (by decide)
  have e : ∀ i, i < 27 → I' 107 i = s i := fun i hi => by
    have := a2 i hi
    rw [Nat.zero_add] at this
    rw [this, hs i hi]
  exact ⟨I', a0, e, yIr_fr (fun k j h => a1 k j (by omega)) (fun _ _ _ => rfl) hI, yq_w_cg e hw, fun i hi => by rw [a1 95 i (by decide), hs i hi]⟩
theorem yr_ntz : ∃ y, xq_D xqP (d + 1) 15 [.int x] S = some (some (.int y), S) := by
  have h62 : ∀ (a b : Int32) S, ∃ y, qJ6_numberOfTrailingZeros_0f7a4_h62 d a b S = some (some (.int y), S) := fun a b S => by
    rw [qJ6_numberOfTrailingZeros_0f7a4_h62_eq]
    split <;> exact ⟨_, qJ6_numberOfTrailingZeros_0f7a4_h74_eq _ _ _ _⟩
  have h49 : ∀ (a b : Int32) S, ∃ y, qJ6_numberOfTrailingZeros_0f7a4_h49 d a b S = some (some (.int y), S) := fun a b S => by
    rw [qJ6_numberOfTrailingZeros_0f7a4_h49_eq]
    split <;> exact h62 _ _ _
  have h34 : ∀ (a b : Int32) S, ∃ y, qJ6_numberOfTrailingZeros_0f7a4_h34 d a b S = some (some (.int y), S) := fun a b S => by
    rw [qJ6_numberOfTrailingZeros_0f7a4_h34_eq]
    split <;> exact h49 _ _ _
  rw [qJ6_numberOfTrailingZeros_0f7a4_eq]
  split
  · split <;> exact h34 _ _ _
  · exact ⟨_, rfl⟩
end YU29
theorem zbit_94 {mk k j : Nat} (h : mk < 2 ^ 6016) (hk : 94 ≤ k) : zbit mk k j = false := by
  unfold zbit
  exact Nat.testBit_lt_two_pow (Nat.lt_of_lt_of_le h (Nat.pow_le_pow_right (by decide) (by omega)))
theorem xz_94 {mk : Nat} (h : mk < 2 ^ 6016) {I I' : Nat → Nat → Int32} (hf : xz_fr mk I I') : ∀ k j, xv k j = true → 94 ≤ k → I' k j = I k j := by
  intro k j hx hk
  refine hf k j hx ?_
  unfold xv at hx
  unfold xm
  split at hx
  · rename_i q hT
    rw [hT]
    dsimp only
    rw [zbit_94 h hk]
    rfl
  · rename_i q hT
    rw [hT]
    dsimp only
    rw [zbit_94 h hk]
    rfl
  · cases hx
/-- an observer's round: what is told alone -/
theorem yObs {d1 m1 k1 d2 m2 k2 : Nat} {xs : List Int32} {I : Nat → Nat → Int32} (h0 : ym_0 k1 k2 = true) (h94 : k1 < 2 ^ 6016) (hF : yF I) (h : ∀ J R, xz_R R → ∃ a, (∃ I1 J1 R1, xq_D xqP d1 m1 (.ref 0 :: xs.map Value.int) (I, J, R) = some (some (.int a), I1, J1, R1)) ∧ ∀ (I1 : Nat → Nat → Int32) (J' : Nat → Nat → Int64) (R' : Nat → Nat → Nat), (∀ k j, xv k j = true → 94 ≤ k → I1 k j = I k j) → yBG I1 → xz_R R' → ∃ I2 J2 R2, xq_D xqP d2 m2 (.ref 94 :: xs.map Value.int) (I1, J', R') = some (some (.int a), I2, J2, R2)) : yRm yBG d1 m1 k1 d2 m2 k2 xs True yF I := by
  intro J R hR
  obtain ⟨a, ⟨I1, J1, R1, h1⟩, h2⟩ := h J R hR
  refine ⟨a, I1, J1, R1, h1, fun I1' he hf hB1 J' R' hR' => ?_⟩
  obtain ⟨I2, J2, R2, h3⟩ := h2 I1' J' R' (xz_94 h94 hf) hB1 hR'
  exact ⟨a, I2, J2, R2, h3, fun _ => rfl, fun I2' he2 hf2 hB2 => yF_0 h0 hf hf2 hF⟩
