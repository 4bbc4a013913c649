/-! dream: A NIGHT of the class: what is hard, pass() -/
section YNC21
variable {d c n q : Nat} {I : Nat → Nat → Int32} {J : Nat → Nat → Int64} {R : Nat → Nat → Nat}
theorem yc_hard21 {r h : Nat} {I : Nat → Nat → Int32} (hr : r < 8) (hh : h < 8) (hq : q ≤ 40) (hI : I 10 4 = Int32.ofNat q) : ∃ v I', xq_D xqP (d + 3) 20 [.ref 3, .ref 10, .ref 21, .int (Int32.ofNat r), .int (Int32.ofNat h)] (I, J, R) = some (some (.int v), I', J, R) ∧ (∀ k j, ¬ k = 7 → ¬ k = 13 → I' k j = I k j) ∧ 0 ≤ v.toInt ∧ v.toInt ≤ 999 ∧ ∀ x, yk_evl (yth (Int32.ofNat h) (I 23 r) (I 6 r) (I 5 r) (Int32.ofNat r) (ym7 (I 21 3)) (ybc (I 4 r))) (yv_c (I 11) q) = [x] → v = ycl x 0 999 := by
  have b1 := xt_nat (n := r) (by omega)
  have b2 : (Int32.ofNat r).toInt.toNat = r := by omega
  generalize hI1 : xq_upd (xq_upd (xq_upd (xq_upd (xq_upd (xq_upd (xq_upd I 7 0 (Int32.ofNat h)) 7 1 (I 23 r)) 7 2 (I 6 r)) 7 3 (I 5 r)) 7 4 (Int32.ofNat r)) 7 5 (ym7 (I 21 3))) 7 6 (ybc (I 4 r)) = I1
  have f1 : ∀ k j, ¬ k = 7 → I1 k j = I k j := fun k j hk => by
    rw [← hI1, xu_k hk, xu_k hk, xu_k hk, xu_k hk, xu_k hk, xu_k hk, xu_k hk]
  have f7 : ∀ i, i < 7 → I1 7 i = yth (Int32.ofNat h) (I 23 r) (I 6 r) (I 5 r) (Int32.ofNat r) (ym7 (I 21 3)) (ybc (I 4 r)) i := by
    intro i hi
    rw [← hI1]
    rcases (show i = 0 ∨ i = 1 ∨ i = 2 ∨ i = 3 ∨ i = 4 ∨ i = 5 ∨ i = 6 by omega) with rfl | rfl | rfl | rfl | rfl | rfl | rfl <;> simp [xq_upd, yth]
  obtain ⟨v, I2, g0, g1, g2⟩ := yv_val10 (d := d) (J := J) (R := R) (I := I1) hq ((f1 10 4 (by decide)).trans hI)
  have ec : I1 11 = I 11 := by
    funext j
    exact f1 11 j (by decide)
  have hb := ycl_r (v := v) (lo := 0) (hi := 999) (by decide)
  refine ⟨ycl v 0 999, I2, ?_, fun k j h1 h2 => (g1 k j h2).trans (f1 k j h1), ?_, ?_, fun x hx => ?_⟩
  · rw [qX0_hardBy_10_21_eq, b2, b1, if_pos (by omega), if_pos (by omega), if_pos (by omega), if_pos (by omega), yc_bc, xb_I1]
    show xq_bI (xq_D xqP (d + 2) 58 [.ref 10, .ref 7] (xq_upd (xq_upd (xq_upd (xq_upd (xq_upd (xq_upd (xq_upd I 7 0 (Int32.ofNat h)) 7 1 (I 23 r)) 7 2 (I 6 r)) 7 3 (I 5 r)) 7 4 (Int32.ofNat r)) 7 5 (ym7 (I 21 3))) 7 6 (ybc (I 4 r)), J, R)) _ = _
    rw [hI1, g0, xb_I1, yc_between, xb_I1]
  · exact hb.1
  · exact hb.2
  · rw [g2 x (by rw [ec, yk_evl_cg f7]; exact hx)]
theorem yc_passl21 {rb ni : Int32} {ro ca mo wi ti : Nat → Int32} {C : List Int32} (hn : n ≤ 8) (hc : c ≤ 8) (hq : q ≤ 40) (hR : R 3 9 = 10) : ∀ (m h : Nat) (I : Nat → Nat → Int32) (M : Nat → Int32), h + m = n → I 3 7 = Int32.ofNat n → I 3 6 = Int32.ofNat c → I 3 11 = rb → I 10 4 = Int32.ofNat q → yv_c (I 11) q = C → I 21 3 = ni → (∀ i, i < 8 → I 22 i = ro i ∧ I 4 i = ca i ∧ I 5 i = mo i ∧ I 6 i = wi i ∧ I 23 i = ti i ∧ I 9 i = M i) → ∃ (I' : Nat → Nat → Int32) (M' : Nat → Int32), qX0_pass_21_h15 (d + 4) (Int32.ofNat h) (I, J, R) = qX0_pass_21_h78 (d + 4) 0 (I', J, R) ∧ (∀ i, i < 8 → I' 9 i = M' i) ∧ (∀ Hd, yHd C ti wi mo ca ni c Hd → (∀ i, i < 8 → M i = yn_m c rb ro Hd h i) → ∀ i, i < 8 → M' i = yn_m c rb ro Hd n i) ∧ ∀ k j, ¬ k = 7 → ¬ k = 9 → ¬ k = 13 → I' k j = I k j
  | 0, h, I, M, hm, i1, i2, i3, i4, i5, i6, i7 => by
    have e : h = n := by omega
    subst e
    have i1' : (I, J, R).1 3 7 = Int32.ofNat h := i1
    refine ⟨I, M, ?_, fun i hi => (i7 i hi).2.2.2.2.2, fun _ _ h => h, fun _ _ _ _ _ => rfl⟩
    rw [qX0_pass_21_h15_eq, i1', if_pos (Int32.le_refl _)]
  | m + 1, h, I, M, hm, i1, i2, i3, i4, i5, i6, i7 => by
    have i1' : (I, J, R).1 3 7 = Int32.ofNat n := i1
    have i3' : (I, J, R).1 3 11 = rb := i3
    have a1 : Int32.ofNat h + (1 : Int32) = Int32.ofNat (h + 1) := (Int32.ofNat_add h 1).symm
    have b1 := xt_nat (n := h) (by omega)
    have b2 : (Int32.ofNat h).toInt.toNat = h := by omega
    have hle : ¬ Int32.ofNat n ≤ Int32.ofNat h := fun z => by
      have := (xr_le (by omega) (by omega)).mp z
      omega
    have er : (I, J, R).1 22 h = ro h := (i7 h (by omega)).1
    rw [qX0_pass_21_h15_eq, i1', if_neg hle, b2, b1, if_pos (by omega), er, i3']
    have miss : ¬ (yhb rb (Int32.ofNat h) ∧ 0 ≤ (ro h).toInt ∧ (ro h).toInt < (c : Int)) → ∃ (I' : Nat → Nat → Int32) (M' : Nat → Int32), qX0_pass_21_h70 (d + 4) (Int32.ofNat h) (ro h) (I, J, R) = qX0_pass_21_h78 (d + 4) 0 (I', J, R) ∧ (∀ i, i < 8 → I' 9 i = M' i) ∧ (∀ Hd, yHd C ti wi mo ca ni c Hd → (∀ i, i < 8 → M i = yn_m c rb ro Hd h i) → ∀ i, i < 8 → M' i = yn_m c rb ro Hd n i) ∧ ∀ k j, ¬ k = 7 → ¬ k = 9 → ¬ k = 13 → I' k j = I k j := by
      intro hno
      obtain ⟨I', M', g0, g1, g2, g3⟩ := yc_passl21 (C := C) hn hc hq hR m (h + 1) I M (by omega) i1 i2 i3 i4 i5 i6 i7
      refine ⟨I', M', ?_, g1, fun Hd h1 h2 => g2 Hd h1 (fun i hi => ?_), g3⟩
      · rw [qX0_pass_21_h70_eq, a1]
        exact g0
      · rw [h2 i hi]
        rw [yn_m_F hno]
    by_cases q1 : yhb rb (Int32.ofNat h)
    · rw [if_neg (show ¬ ¬ (rb >>> (Int32.ofNat h &&& 31)) &&& (1 : Int32) = 1 from fun z => z q1), yc_has i2 hc, xb_I1]
      by_cases q2 : 0 ≤ (ro h).toInt ∧ (ro h).toInt < (c : Int)
      · have hR1 : (I, J, R).2.2 3 9 = 10 := hR
        have hr8 : 0 ≤ (ro h).toInt ∧ (ro h).toInt < ((8 : Nat) : Int) := by omega
        have hri : (ro h).toInt.toNat < 8 := by omega
        have ero : ro h = Int32.ofNat (ro h).toInt.toNat := by
          rw [xt_eq, xt_nat (by omega)]
          omega
        rw [if_pos q2, if_neg (by decide), if_pos hr8, hR1, if_neg (by decide), if_pos rfl]
        obtain ⟨v, I1, g0, g1, g2, g3, g4⟩ := yc_hard21 (d := d + 1) (J := J) (R := R) (r := (ro h).toInt.toNat) (h := h) hri (by omega) hq i4
        rw [← ero] at g0
        rw [g0, xb_I1, if_pos hr8]
        have e9 : (I, J, R).1 9 (ro h).toInt.toNat = M (ro h).toInt.toNat := (i7 _ hri).2.2.2.2.2
        rw [e9]
        have f : ∀ k j, ¬ k = 7 → ¬ k = 9 → ¬ k = 13 → xq_upd I1 9 (ro h).toInt.toNat (M (ro h).toInt.toNat + v) k j = I k j := fun k j h1 h2 h3 => by rw [xu_k h2, g1 k j h1 h3]
        have ec : yv_c (xq_upd I1 9 (ro h).toInt.toNat (M (ro h).toInt.toNat + v) 11) q = C := by
          rw [← i5]
          congr 1
          funext j
          exact f 11 j (by decide) (by decide) (by decide)
        obtain ⟨I', M', k0, k1, k2, k3⟩ := yc_passl21 (C := C) hn hc hq hR m (h + 1) (xq_upd I1 9 (ro h).toInt.toNat (M (ro h).toInt.toNat + v)) (xr_up M (ro h).toInt.toNat (M (ro h).toInt.toNat + v)) (by omega) ((f 3 7 (by decide) (by decide) (by decide)).trans i1) ((f 3 6 (by decide) (by decide) (by decide)).trans i2) ((f 3 11 (by decide) (by decide) (by decide)).trans i3) ((f 10 4 (by decide) (by decide) (by decide)).trans i4) ec ((f 21 3 (by decide) (by decide) (by decide)).trans i6) (fun i hi => by
          obtain ⟨u1, u2, u3, u4, u5, u6⟩ := i7 i hi
          refine ⟨(f 22 i (by decide) (by decide) (by decide)).trans u1, (f 4 i (by decide) (by decide) (by decide)).trans u2, (f 5 i (by decide) (by decide) (by decide)).trans u3, (f 6 i (by decide) (by decide) (by decide)).trans u4, (f 23 i (by decide) (by decide) (by decide)).trans u5, ?_⟩
          unfold xr_up
          by_cases hq : i = (ro h).toInt.toNat
          · rw [if_pos hq, hq, xu_t]
          · rw [if_neg hq, xq_upd_n (fun z => hq z.2), g1 9 i (by decide) (by decide)]
            exact u6)
        refine ⟨I', M', ?_, k1, fun Hd h1 h2 => k2 Hd h1 (fun i hi => ?_), fun k j h1 h2 h3 => (k3 k j h1 h2 h3).trans (f k j h1 h2 h3)⟩
        · rw [qX0_pass_21_h70_eq, a1]
          exact k0
        · obtain ⟨x, hx1, hx2⟩ := h1 (ro h).toInt.toNat h (by omega) (by omega)
          obtain ⟨u1, u2, u3, u4, u5, u6⟩ := i7 _ hri
          have hv : v = Hd (ro h).toInt.toNat h := by
            rw [hx2]
            refine g4 x ?_
            rw [u2, u3, u4, u5, i5, i6]
            exact hx1
          rw [yn_m_T ⟨q1, q2⟩, hv, h2 _ hri]
          unfold xr_up
          by_cases hq : i = (ro h).toInt.toNat
          · rw [if_pos hq, if_pos hq]
          · rw [if_neg hq, if_neg hq]
            exact h2 i hi
      · rw [if_neg q2, if_pos rfl]
        exact miss (fun z => q2 z.2)
    · rw [if_pos (show ¬ (rb >>> (Int32.ofNat h &&& 31)) &&& (1 : Int32) = 1 from q1)]
      exact miss (fun z => q1 z.1)
theorem yc_passt21 {rd M ti : Nat → Int32} (hc : c ≤ 8) : ∀ (m r : Nat) (I : Nat → Nat → Int32), r + m = c → I 3 6 = Int32.ofNat c → (∀ i, i < 8 → I 8 i = rd i ∧ I 9 i = M i) → (∀ i, r ≤ i → i < 8 → I 23 i = ti i) → ∃ I', qX0_pass_21_h78 (d + 2) (Int32.ofNat r) (I, J, R) = some (none, I', J, R) ∧ (∀ i, r ≤ i → i < c → I' 23 i = ycl (if rd i ≤ 0 then ti i - 5 else ti i + M i) 0 99) ∧ (∀ i, (i < r ∨ c ≤ i) → I' 23 i = I 23 i) ∧ I' 21 4 = I 21 4 + ybc (I 3 10) ∧ I' 21 5 = I 21 5 + ybc (I 3 11) ∧ I' 21 3 = I 21 3 + 1 ∧ ∀ k j, ¬ k = 23 → ¬ (k = 21 ∧ (j = 3 ∨ j = 4 ∨ j = 5)) → I' k j = I k j
  | 0, r, I, hm, i2, i3, i4 => by
    have e : r = c := by omega
    subst e
    have i2' : (I, J, R).1 3 6 = Int32.ofNat r := i2
    refine ⟨xq_upd (xq_upd (xq_upd I 21 4 (I 21 4 + ybc (I 3 10))) 21 5 (I 21 5 + ybc (I 3 11))) 21 3 (I 21 3 + 1), ?_, fun i h1 h2 => by omega, fun i _ => ?_, ?_, ?_, ?_, fun k j h1 h2 => ?_⟩
    · rw [qX0_pass_21_h78_eq, i2', if_pos (Int32.le_refl _), yc_bc, xb_I1, yc_bc, xb_I1]
      show some (none, xq_upd (xq_upd (xq_upd I 21 4 (I 21 4 + ybc (I 3 10))) 21 5 (xq_upd I 21 4 (I 21 4 + ybc (I 3 10)) 21 5 + ybc (xq_upd I 21 4 (I 21 4 + ybc (I 3 10)) 3 11))) 21 3 (xq_upd I 21 4 (I 21 4 + ybc (I 3 10)) 21 3 + 1), J, R) = _
      rw [xu_j (by decide), xu_k (by decide), xu_j (by decide)]
    · rw [xu_k (by decide), xu_k (by decide), xu_k (by decide)]
    · rw [xu_j (by decide), xu_j (by decide), xu_t]
    · rw [xu_j (by decide), xu_t]
    · rw [xu_t]
    · rw [xq_upd_n (by omega), xq_upd_n (by omega), xq_upd_n (by omega)]
  | m + 1, r, I, hm, i2, i3, i4 => by
    have i2' : (I, J, R).1 3 6 = Int32.ofNat c := i2
    have a1 : Int32.ofNat r + (1 : Int32) = Int32.ofNat (r + 1) := (Int32.ofNat_add r 1).symm
    have b1 := xt_nat (n := r) (by omega)
    have b2 : (Int32.ofNat r).toInt.toNat = r := by omega
    have hle : ¬ Int32.ofNat c ≤ Int32.ofNat r := fun z => by
      have := (xr_le (by omega) (by omega)).mp z
      omega
    have e8 : (I, J, R).1 8 r = rd r := (i3 r (by omega)).1
    have e9 : (I, J, R).1 9 r = M r := (i3 r (by omega)).2
    have e17 : (I, J, R).1 23 r = ti r := i4 r (Nat.le_refl _) (by omega)
    have key : qX0_pass_21_h78 (d + 2) (Int32.ofNat r) (I, J, R) = qX0_pass_21_h78 (d + 2) (Int32.ofNat (r + 1)) (xq_upd I 23 r (ycl (if rd r ≤ 0 then ti r - 5 else ti r + M r) 0 99), J, R) := by
      rw [qX0_pass_21_h78_eq, i2', if_neg hle, b2, b1, if_pos (by omega), e8, e9, e17]
      by_cases h : rd r ≤ 0
      · rw [if_pos h, if_pos h, if_pos (by omega), qX0_pass_21_h119_eq, yc_between, xb_I1, b2, b1, if_pos (by omega), a1]
      · rw [if_neg h, if_neg h, if_pos (by omega), if_pos (by omega), qX0_pass_21_h119_eq, yc_between, xb_I1, b2, b1, if_pos (by omega), a1]
    obtain ⟨I', g0, g1, g2, g3, g4, g5, g6⟩ := yc_passt21 (rd := rd) (M := M) (ti := ti) hc m (r + 1) (xq_upd I 23 r (ycl (if rd r ≤ 0 then ti r - 5 else ti r + M r) 0 99)) (by omega) (by rw [xu_k (by decide)]; exact i2) (fun i hi => by rw [xu_k (by decide), xu_k (by decide)]; exact i3 i hi) (fun i h1 h2 => by rw [xq_upd_n (by omega)]; exact i4 i (by omega) h2)
    refine ⟨I', key.trans g0, fun i h1 h2 => ?_, fun i h1 => ?_, ?_, ?_, ?_, fun k j h1 h2 => ?_⟩
    · by_cases hi : i = r
      · subst hi
        rw [g2 i (by omega), xu_t]
      · exact g1 i (by omega) h2
    · rw [g2 i (by omega), xq_upd_n (by omega)]
    · rw [g3, xu_k (by decide), xu_k (by decide)]
    · rw [g4, xu_k (by decide), xu_k (by decide)]
    · rw [g5, xu_k (by decide)]
    · rw [g6 k j h1 h2, xu_k h1]
/-- a NIGHT passes -/
theorem yc_pass21 {I : Nat → Nat → Int32} (hn : n ≤ 8) (hc : c ≤ 8) (hq : q ≤ 40) (hR : R 3 9 = 10) (i1 : I 3 7 = Int32.ofNat n) (i2 : I 3 6 = Int32.ofNat c) (i4 : I 10 4 = Int32.ofNat q) : ∃ (I' : Nat → Nat → Int32) (M : Nat → Int32), xq_D xqP (d + 5) 25 [.ref 3, .ref 21] (I, J, R) = some (none, I', J, R) ∧ I' 3 10 = (yn_n c (I 3 8) (I 21 2) (I 22) (I 4) (I 5) (I 6) n).1 ∧ I' 3 11 = (yn_n c (I 3 8) (I 21 2) (I 22) (I 4) (I 5) (I 6) n).2.1 ∧ (∀ i, i < c → I' 23 i = ycl (if (yn_n c (I 3 8) (I 21 2) (I 22) (I 4) (I 5) (I 6) n).2.2.1 i ≤ 0 then I 23 i - 5 else I 23 i + M i) 0 99) ∧ (∀ i, c ≤ i → I' 23 i = I 23 i) ∧ I' 21 4 = I 21 4 + ybc (yn_n c (I 3 8) (I 21 2) (I 22) (I 4) (I 5) (I 6) n).1 ∧ I' 21 5 = I 21 5 + ybc (yn_n c (I 3 8) (I 21 2) (I 22) (I 4) (I 5) (I 6) n).2.1 ∧ I' 21 3 = I 21 3 + 1 ∧ (∀ Hd, yHd (yv_c (I 11) q) (I 23) (I 6) (I 5) (I 4) (I 21 3) c Hd → ∀ i, i < 8 → M i = yn_m c (yn_n c (I 3 8) (I 21 2) (I 22) (I 4) (I 5) (I 6) n).2.1 (I 22) Hd n i) ∧ ∀ k j, ¬ k = 7 → ¬ k = 8 → ¬ k = 9 → ¬ k = 13 → ¬ k = 23 → ¬ (k = 3 ∧ (j = 10 ∨ j = 11)) → ¬ (k = 21 ∧ (j = 3 ∨ j = 4 ∨ j = 5)) → I' k j = I k j := by
  obtain ⟨I1, g0, g1, g2, g3, g4⟩ := yc_watch21 (d := d) (J := J) (R := R) hn hc i1 i2
  generalize hW : yn_n c (I 3 8) (I 21 2) (I 22) (I 4) (I 5) (I 6) n = W at g1 g2 g3 ⊢
  obtain ⟨I2, k0, k1, -, k3⟩ := yc_fill9 (d := d + 3) (x := 0) (J := J) (R := R) 8 0 I1 rfl
  have f2 : ∀ k j, ¬ k = 8 → ¬ k = 9 → ¬ (k = 3 ∧ (j = 10 ∨ j = 11)) → I2 k j = I k j := fun k j h1 h2 h3 => (k3 k j h2).trans (g4 k j h1 h3)
  have ec : yv_c (I2 11) q = yv_c (I 11) q := by
    congr 1
    funext j
    exact f2 11 j (by decide) (by decide) (by omega)
  obtain ⟨I3, M, u0, u1, u2, u3⟩ := yc_passl21 (d := d) (J := J) (R := R) (rb := W.2.1) (ni := I 21 3) (ro := I 22) (ca := I 4) (mo := I 5) (wi := I 6) (ti := I 23) (C := yv_c (I 11) q) hn hc hq hR n 0 I2 (fun _ => 0) (by omega) ((f2 3 7 (by decide) (by decide) (by decide)).trans i1) ((f2 3 6 (by decide) (by decide) (by decide)).trans i2) ((k3 3 11 (by decide)).trans g2) ((f2 10 4 (by decide) (by decide) (by decide)).trans i4) ec (f2 21 3 (by decide) (by decide) (by decide)) (fun i hi => ⟨f2 22 i (by decide) (by decide) (by omega), f2 4 i (by decide) (by decide) (by omega), f2 5 i (by decide) (by decide) (by omega), f2 6 i (by decide) (by decide) (by omega), f2 23 i (by decide) (by decide) (by omega), k1 i (Nat.zero_le _) hi⟩)
  obtain ⟨I4, v0, v1, v2, v3, v4, v5, v6⟩ := yc_passt21 (d := d + 2) (J := J) (R := R) (rd := W.2.2.1) (M := M) (ti := I 23) hc c 0 I3 (by omega) ((u3 3 6 (by decide) (by decide) (by decide)).trans ((f2 3 6 (by decide) (by decide) (by decide)).trans i2)) (fun i hi => ⟨(u3 8 i (by decide) (by decide) (by decide)).trans ((k3 8 i (by decide)).trans (g3 i hi)), u1 i hi⟩) (fun i _ hi => (u3 23 i (by decide) (by decide) (by decide)).trans (f2 23 i (by decide) (by decide) (by omega)))
  have f3 : ∀ k j, ¬ k = 7 → ¬ k = 8 → ¬ k = 9 → ¬ k = 13 → ¬ (k = 3 ∧ (j = 10 ∨ j = 11)) → I3 k j = I k j := fun k j h1 h2 h3 h4 h5 => (u3 k j h1 h3 h4).trans (f2 k j h2 h3 h5)
  have e10 : I3 3 10 = W.1 := (u3 3 10 (by decide) (by decide) (by decide)).trans ((k3 3 10 (by decide)).trans g1)
  have e11 : I3 3 11 = W.2.1 := (u3 3 11 (by decide) (by decide) (by decide)).trans ((k3 3 11 (by decide)).trans g2)
  refine ⟨I4, M, ?_, ?_, ?_, fun i hi => v1 i (Nat.zero_le _) hi, fun i hi => ?_, ?_, ?_, ?_, fun Hd h1 => u2 Hd h1 (fun i _ => rfl), fun k j h1 h2 h3 h4 h5 h6 h7 => (v6 k j h5 h7).trans (f3 k j h1 h2 h3 h4 h6)⟩
  · have z0 : (0 : Int32) = Int32.ofNat 0 := rfl
    have k0' : xq_D xqP (d + 4) 16 [.ref 9, .int 0] (I1, J, R) = some (none, I2, J, R) := by
      rw [qJ7_fill_53178_9_eq]
      exact k0
    rw [qX0_pass_21_eq, g0, xb_V1, k0', xb_V1, z0, u0, z0]
    exact v0
  · rw [v6 3 10 (by decide) (by decide), e10]
  · rw [v6 3 11 (by decide) (by decide), e11]
  · rw [v2 i (by omega), f3 23 i (by decide) (by decide) (by decide) (by decide) (by omega)]
  · rw [v3, e10, f3 21 4 (by decide) (by decide) (by decide) (by decide) (by decide)]
  · rw [v4, e11, f3 21 5 (by decide) (by decide) (by decide) (by decide) (by decide)]
  · rw [v5, f3 21 3 (by decide) (by decide) (by decide) (by decide) (by decide)]
end YNC21
