/-! then: A NIGHT of the reference, whole; NIGHTS -/
section YNG107
variable {d n c n0 : Nat} {I : Nat → Nat → Int32} {J : Nat → Nat → Int64} {R : Nat → Nat → Nat}
theorem yr_tire107 {rd M ti : Nat → Int32} (hc : c ≤ 8) : ∀ (m r : Nat) (I : Nat → Nat → Int32), r + m = c → I 94 3 = Int32.ofNat c → (∀ i, i < 8 → I 108 i = rd i ∧ I 109 i = M i) → (∀ i, r ≤ i → i < 8 → I 107 (8 + i) = ti i) → ∃ I', qX8_goNight_107_h237 (d + 1) (Int32.ofNat r) (I, J, R) = some (none, I', J, R) ∧ (∀ i, r ≤ i → i < c → I' 107 (8 + i) = ytr (rd i) (ti i) (M i)) ∧ (∀ i, (i < r ∨ c ≤ i) → i < 8 → I' 107 (8 + i) = I 107 (8 + i)) ∧ I' 107 25 = I 107 25 + ybc (I 94 27) ∧ I' 107 26 = I 107 26 + ybc (I 94 28) ∧ I' 107 24 = I 107 24 + 1 ∧ ∀ k j, ¬ (k = 107 ∧ ((8 ≤ j ∧ j < 16) ∨ j = 24 ∨ j = 25 ∨ j = 26)) → I' k j = I k j
  | 0, r, I, hm, i2, i3, i4 => by
    have e : r = c := by omega
    subst e
    have i2' : (I, J, R).1 94 3 = Int32.ofNat r := i2
    refine ⟨xq_upd (xq_upd (xq_upd I 107 25 (I 107 25 + ybc (I 94 27))) 107 26 (I 107 26 + ybc (I 94 28))) 107 24 (I 107 24 + 1), ?_, fun i h1 h2 => by omega, fun i _ h2 => ?_, ?_, ?_, ?_, fun k j h1 => ?_⟩
    · rw [qX8_goNight_107_h237_eq, i2', if_pos (Int32.le_refl _), yc_bc, xb_I1, yc_bc, xb_I1]
      show some (none, xq_upd (xq_upd (xq_upd I 107 25 (I 107 25 + ybc (I 94 27))) 107 26 (xq_upd I 107 25 (I 107 25 + ybc (I 94 27)) 107 26 + ybc (xq_upd I 107 25 (I 107 25 + ybc (I 94 27)) 94 28))) 107 24 (xq_upd I 107 25 (I 107 25 + ybc (I 94 27)) 107 24 + 1), J, R) = _
      rw [xu_j (by decide), xu_k (by decide), xu_j (by decide)]
    · rw [xq_upd_n (by omega), xq_upd_n (by omega), xq_upd_n (by omega)]
    · rw [xu_j (by decide), xu_j (by decide), xu_t]
    · rw [xu_j (by decide), xu_t]
    · rw [xu_t]
    · rw [xq_upd_n (by omega), xq_upd_n (by omega), xq_upd_n (by omega)]
  | m + 1, r, I, hm, i2, i3, i4 => by
    have i2' : (I, J, R).1 94 3 = Int32.ofNat c := i2
    have a1 : Int32.ofNat r + (1 : Int32) = Int32.ofNat (r + 1) := (Int32.ofNat_add r 1).symm
    have a8 : (8 : Int32) + Int32.ofNat r = Int32.ofNat (8 + r) := (Int32.ofNat_add 8 r).symm
    have b1 := xt_nat (n := r) (by omega)
    have b2 : (Int32.ofNat r).toInt.toNat = r := by omega
    have b3 := xt_nat (n := 8 + r) (by omega)
    have b4 : (Int32.ofNat (8 + r)).toInt.toNat = 8 + r := by omega
    have hle : ¬ Int32.ofNat c ≤ Int32.ofNat r := fun z => by
      have := (xr_le (by omega) (by omega)).mp z
      omega
    have e8 : (I, J, R).1 108 r = rd r := (i3 r (by omega)).1
    have e9 : (I, J, R).1 109 r = M r := (i3 r (by omega)).2
    have e17 : (I, J, R).1 107 (8 + r) = ti r := i4 r (Nat.le_refl _) (by omega)
    have key : qX8_goNight_107_h237 (d + 1) (Int32.ofNat r) (I, J, R) = qX8_goNight_107_h237 (d + 1) (Int32.ofNat (r + 1)) (xq_upd I 107 (8 + r) (ytr (rd r) (ti r) (M r)), J, R) := by
      rw [qX8_goNight_107_h237_eq, i2', if_neg hle, b2, b1, if_pos (by omega), e8, e9, a8, b4, b3, e17]
      by_cases h : rd r = 0
      · rw [if_neg (fun z => z h), if_pos (by omega), qX8_goNight_107_h292_eq, b4, b3, if_pos (by omega), a1]
        show qX8_goNight_107_h237 (d + 1) (Int32.ofNat (r + 1)) (xq_upd I 107 (8 + r) (if 0 < ti r - 5 then ti r - 5 else 0), J, R) = _
        rw [ytr_0 h]
      · rw [if_pos h, if_pos (by omega), if_pos (by omega), qX8_goNight_107_h292_eq, b4, b3, if_pos (by omega), a1]
        show qX8_goNight_107_h237 (d + 1) (Int32.ofNat (r + 1)) (xq_upd I 107 (8 + r) (if ti r + M r < 99 then ti r + M r else 99), J, R) = _
        rw [ytr_n h]
    obtain ⟨I', g0, g1, g2, g3, g4, g5, g6⟩ := yr_tire107 (rd := rd) (M := M) (ti := ti) hc m (r + 1) (xq_upd I 107 (8 + r) (ytr (rd r) (ti r) (M r))) (by omega) (by rw [xu_k (by decide)]; exact i2) (fun i hi => by rw [xu_k (by decide), xu_k (by decide)]; exact i3 i hi) (fun i h1 h2 => by rw [xq_upd_n (by omega)]; exact i4 i (by omega) h2)
    refine ⟨I', key.trans g0, fun i h1 h2 => ?_, fun i h1 h2 => ?_, ?_, ?_, ?_, fun k j h1 => ?_⟩
    · by_cases hi : i = r
      · subst hi
        rw [g2 i (by omega) (by omega), xu_t]
      · exact g1 i (by omega) h2
    · rw [g2 i (by omega) h2, xq_upd_n (by omega)]
    · rw [g3, xq_upd_n (by omega), xq_upd_n (by omega)]
    · rw [g4, xq_upd_n (by omega), xq_upd_n (by omega)]
    · rw [g5, xq_upd_n (by omega)]
    · rw [g6 k j h1, xq_upd_n (by omega)]
/-- a NIGHT passes -/
theorem yr_go107 (hn : n ≤ 8) (hc : c ≤ 8) (hn0 : n0 ≤ 40) (hF : yrF 107 n c n0 I R) : ∃ (I' : Nat → Nat → Int32) (R' : Nat → Nat → Nat) (M : Nat → Int32), xq_D xqP (d + 174) 220 [.ref 94, .ref 107] (I, J, R) = some (none, I', J, R') ∧ I' 94 27 = (yn_rn (I 94 2) (I 107) (I 98) (I 96) (I 97) (fun i => I 107 (16 + i)) n).1 ∧ I' 94 28 = (yn_rn (I 94 2) (I 107) (I 98) (I 96) (I 97) (fun i => I 107 (16 + i)) n).2.1 ∧ (∀ i, i < c → I' 107 (8 + i) = ytr ((yn_rn (I 94 2) (I 107) (I 98) (I 96) (I 97) (fun i => I 107 (16 + i)) n).2.2.1 i) (I 107 (8 + i)) (M i)) ∧ (∀ i, c ≤ i → i < 8 → I' 107 (8 + i) = I 107 (8 + i)) ∧ I' 107 25 = I 107 25 + ybc (yn_rn (I 94 2) (I 107) (I 98) (I 96) (I 97) (fun i => I 107 (16 + i)) n).1 ∧ I' 107 26 = I 107 26 + ybc (yn_rn (I 94 2) (I 107) (I 98) (I 96) (I 97) (fun i => I 107 (16 + i)) n).2.1 ∧ I' 107 24 = I 107 24 + 1 ∧ (∀ k j, ¬ k = 104 → ¬ k = 108 → ¬ k = 109 → ¬ (k = 94 ∧ (j = 13 ∨ j = 14 ∨ j = 15 ∨ j = 16 ∨ j = 27 ∨ j = 28)) → ¬ (k = 107 ∧ ((8 ≤ j ∧ j < 16) ∨ j = 24 ∨ j = 25 ∨ j = 26)) → I' k j = I k j) ∧ (∀ k j, ¬ (k = 94 ∧ j = 12) → R' k j = R k j) ∧ (∀ Hd, yr_Hd (yk_t I 102 n0 40) n0 (fun i => I 107 (8 + i)) (I 97) (I 96) (I 98) (I 107 24) Hd → ∀ i, i < 8 → M i = yr_m (I 94 2) (I 107) (I 98) (I 96) (I 97) (fun i => I 107 (16 + i)) Hd n i) := by
  obtain ⟨i1, i2, i3, i4, i5, i6, i7⟩ := hF
  generalize hI1 : xq_upd (xq_upd I 94 27 0) 94 28 0 = I1
  have f1 : ∀ k j, ¬ (k = 94 ∧ (j = 27 ∨ j = 28)) → I1 k j = I k j := fun k j hk => by rw [← hI1, xq_upd_n (by omega), xq_upd_n (by omega)]
  have c27 : I1 94 27 = 0 := by rw [← hI1, xu_j (by decide), xu_t]
  have c28 : I1 94 28 = 0 := by rw [← hI1, xu_t]
  obtain ⟨I2, g0, g1, -, g3⟩ := yr_clr107 (d := d + 172 + 1) (J := J) (R := R) 8 0 I1 rfl
  have f2 : ∀ k j, ¬ k = 108 → ¬ k = 109 → ¬ (k = 94 ∧ (j = 27 ∨ j = 28)) → I2 k j = I k j := fun k j h1 h2 h3 => (g3 k j h1 h2).trans (f1 k j h3)
  obtain ⟨I3, R3, M, u0, u1, u2, u3, u4, u5, u6, u7⟩ := yr_nightl107 (d := d) (J := J) (n := n) (n0 := n0) (be := I 94 2) (ni := I 107 24) (ro := I 107) (ca := I 98) (mo := I 96) (wi := I 97) (il := fun i => I 107 (16 + i)) (ti := fun i => I 107 (8 + i)) (T := yk_t I2 102 n0 40) hn hn0 i7 n 0 I2 R (fun _ => 0) (by omega) ((f2 94 1 (by decide) (by decide) (by decide)).trans i1) (f2 94 2 (by decide) (by decide) (by decide)) ((f2 94 20 (by decide) (by decide) (by decide)).trans i3) ((f2 94 21 (by decide) (by decide) (by decide)).trans i4) i5 (fun i hi => by rw [f2 102 i (by decide) (by decide) (by omega)]; exact i6 i hi) rfl (f2 107 24 (by decide) (by decide) (by decide)) (fun i hi => ⟨f2 107 i (by decide) (by decide) (by omega), f2 98 i (by decide) (by decide) (by omega), f2 96 i (by decide) (by decide) (by omega), f2 97 i (by decide) (by decide) (by omega), f2 107 (16 + i) (by decide) (by decide) (by omega), f2 107 (8 + i) (by decide) (by decide) (by omega), (g1 i (Nat.zero_le _) hi).2⟩) (by show -1 ≤ ((-1 : Int32)).toInt ∧ ((-1 : Int32)).toInt ≤ 7; decide) ((g3 94 27 (by decide) (by decide)).trans c27) ((g3 94 28 (by decide) (by decide)).trans c28) (fun i hi => (g1 i (Nat.zero_le _) hi).1)
  have u7' : ∀ Hd, yr_Hd (yk_t I 102 n0 40) n0 (fun i => I 107 (8 + i)) (I 97) (I 96) (I 98) (I 107 24) Hd → ∀ i, i < 8 → M i = yr_m (I 94 2) (I 107) (I 98) (I 96) (I 97) (fun i => I 107 (16 + i)) Hd n i := by
    intro Hd h
    have eT : yk_t I2 102 n0 40 = yk_t I 102 n0 40 := by
      funext p
      unfold yk_t
      rw [f2 102 p (by decide) (by decide) (by omega)]
    rw [eT] at u7
    exact u7 Hd h (fun _ _ => rfl)
  generalize yn_rn (I 94 2) (I 107) (I 98) (I 96) (I 97) (fun i => I 107 (16 + i)) n = W at u1 u2 u3 ⊢
  have f3 : ∀ k j, ¬ k = 104 → ¬ k = 108 → ¬ k = 109 → ¬ (k = 94 ∧ (j = 13 ∨ j = 14 ∨ j = 15 ∨ j = 16 ∨ j = 27 ∨ j = 28)) → I3 k j = I k j := fun k j h1 h2 h3 h4 => (u5 k j h1 h2 h3 h4).trans (f2 k j h2 h3 (by omega))
  obtain ⟨I4, v0, v1, v2, v3, v4, v5, v6⟩ := yr_tire107 (d := d + 172) (J := J) (R := R3) (rd := W.2.2.1) (M := M) (ti := fun i => I 107 (8 + i)) hc c 0 I3 (by omega) ((f3 94 3 (by decide) (by decide) (by decide) (by decide)).trans i2) (fun i hi => ⟨u3 i hi, u4 i hi⟩) (fun i _ hi => f3 107 (8 + i) (by decide) (by decide) (by decide) (by omega))
  refine ⟨I4, R3, M, ?_, (v6 94 27 (by decide)).trans u1, (v6 94 28 (by decide)).trans u2, fun i hi => v1 i (Nat.zero_le _) hi, fun i h1 h2 => (v2 i (Or.inr h1) h2).trans (f3 107 (8 + i) (by decide) (by decide) (by decide) (by omega)), ?_, ?_, ?_, fun k j h1 h2 h3 h4 h5 => (v6 k j h5).trans (f3 k j h1 h2 h3 h4), u6, u7'⟩
  · rw [qX8_goNight_107_eq]
    show qX8_goNight_107_h12 (d + 172 + 1) (Int32.ofNat 0) (xq_upd (xq_upd I 94 27 0) 94 28 0, J, R) = _
    rw [hI1, g0]
    have u0' : qX8_goNight_107_h42 (d + 172 + 1) (-1) 0 (I2, J, R) = qX8_goNight_107_h237 (d + 172 + 1) 0 (I3, J, R3) := u0
    rw [u0']
    exact v0
  · rw [v3, u1, f3 107 25 (by decide) (by decide) (by decide) (by decide)]
  · rw [v4, u2, f3 107 26 (by decide) (by decide) (by decide) (by decide)]
  · rw [v5, f3 107 24 (by decide) (by decide) (by decide) (by decide)]
theorem yrF_cg107 {I' : Nat → Nat → Int32} {R' : Nat → Nat → Nat} (hF : yrF 107 n c n0 I R) (h1 : ∀ k j, ¬ k = 104 → ¬ k = 108 → ¬ k = 109 → ¬ (k = 94 ∧ (j = 13 ∨ j = 14 ∨ j = 15 ∨ j = 16 ∨ j = 27 ∨ j = 28)) → ¬ (k = 107 ∧ ((8 ≤ j ∧ j < 16) ∨ j = 24 ∨ j = 25 ∨ j = 26)) → I' k j = I k j) (h2 : ∀ k j, ¬ (k = 94 ∧ j = 12) → R' k j = R k j) : yrF 107 n c n0 I' R' := by
  obtain ⟨i1, i2, i3, i4, i5, i6, i7⟩ := hF
  refine ⟨?_, ?_, ?_, ?_, ?_, fun i hi => ?_, fun i hi => ?_⟩
  · rw [h1 94 1 (by decide) (by decide) (by decide) (by decide) (by decide)]; exact i1
  · rw [h1 94 3 (by decide) (by decide) (by decide) (by decide) (by decide)]; exact i2
  · rw [h1 94 20 (by decide) (by decide) (by decide) (by decide) (by decide)]; exact i3
  · rw [h1 94 21 (by decide) (by decide) (by decide) (by decide) (by decide)]; exact i4
  · rw [h2 94 18 (by decide)]; exact i5
  · rw [h1 102 i (by decide) (by decide) (by decide) (by omega) (by omega)]; exact i6 i hi
  · rw [h1 107 i (by decide) (by decide) (by decide) (by omega) (by omega)]; exact i7 i hi
/-- NIGHTS pass -/
theorem yr_gol107 {N : Nat} (hN : N ≤ 1000) (hn : n ≤ 8) (hc : c ≤ 8) (hn0 : n0 ≤ 40) : ∀ (m v : Nat) (I : Nat → Nat → Int32) (R : Nat → Nat → Nat), v + m = N → yrF 107 n c n0 I R → ∃ (I' : Nat → Nat → Int32) (R' : Nat → Nat → Nat), qX8_goNights_107_h2 (d + 174) (Int32.ofNat N) (Int32.ofNat v) (I, J, R) = some (none, I', J, R') ∧ (∀ k j, ¬ k = 104 → ¬ k = 108 → ¬ k = 109 → ¬ (k = 94 ∧ (j = 13 ∨ j = 14 ∨ j = 15 ∨ j = 16 ∨ j = 27 ∨ j = 28)) → ¬ (k = 107 ∧ ((8 ≤ j ∧ j < 16) ∨ j = 24 ∨ j = 25 ∨ j = 26)) → I' k j = I k j) ∧ (∀ k j, ¬ (k = 94 ∧ j = 12) → R' k j = R k j)
  | 0, v, I, R, hm, hF => by
    have e : v = N := by omega
    subst e
    refine ⟨I, R, ?_, fun _ _ _ _ _ _ _ => rfl, fun _ _ _ => rfl⟩
    rw [qX8_goNights_107_h2_eq, if_pos (Int32.le_refl _)]
  | m + 1, v, I, R, hm, hF => by
    have a1 : Int32.ofNat v + (1 : Int32) = Int32.ofNat (v + 1) := (Int32.ofNat_add v 1).symm
    obtain ⟨I1, R1, M, g0, -, -, -, -, -, -, -, g1, g2, -⟩ := yr_go107 (d := d) (J := J) hn hc hn0 hF
    obtain ⟨I', R', k0, k1, k2⟩ := yr_gol107 hN hn hc hn0 m (v + 1) I1 R1 (by omega) (yrF_cg107 hF g1 g2)
    refine ⟨I', R', ?_, fun k j h1 h2 h3 h4 h5 => (k1 k j h1 h2 h3 h4 h5).trans (g1 k j h1 h2 h3 h4 h5), fun k j h => (k2 k j h).trans (g2 k j h)⟩
    rw [qX8_goNights_107_h2_eq, if_neg (fun z => by have := (xr_le (by omega) (by omega)).mp z; omega), g0, xb_V1, a1]
    exact k0
theorem yr_gos107 {N : Nat} (hN : N ≤ 1000) (hn : n ≤ 8) (hc : c ≤ 8) (hn0 : n0 ≤ 40) (hF : yrF 107 n c n0 I R) : ∃ (I' : Nat → Nat → Int32) (R' : Nat → Nat → Nat), xq_D xqP (d + 175) 221 [.ref 94, .ref 107, .int (Int32.ofNat N)] (I, J, R) = some (none, I', J, R') ∧ (∀ k j, ¬ k = 104 → ¬ k = 108 → ¬ k = 109 → ¬ (k = 94 ∧ (j = 13 ∨ j = 14 ∨ j = 15 ∨ j = 16 ∨ j = 27 ∨ j = 28)) → ¬ (k = 107 ∧ ((8 ≤ j ∧ j < 16) ∨ j = 24 ∨ j = 25 ∨ j = 26)) → I' k j = I k j) ∧ (∀ k j, ¬ (k = 94 ∧ j = 12) → R' k j = R k j) := by
  rw [qX8_goNights_107_eq]
  exact yr_gol107 hN hn hc hn0 N 0 I R (by omega) hF
end YNG107
