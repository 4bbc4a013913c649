/-! then: A NIGHT of the reference: goNight() -/
section YNF107
variable {d n c n0 : Nat} {I : Nat → Nat → Int32} {J : Nat → Nat → Int64} {R : Nat → Nat → Nat}
theorem yr_clr107 : ∀ (m i : Nat) (I : Nat → Nat → Int32), i + m = 8 → ∃ I', qX8_goNight_107_h12 d (Int32.ofNat i) (I, J, R) = qX8_goNight_107_h42 d (-1) 0 (I', J, R) ∧ (∀ j, i ≤ j → j < 8 → I' 108 j = 0 ∧ I' 109 j = 0) ∧ (∀ j, j < i → I' 108 j = I 108 j ∧ I' 109 j = I 109 j) ∧ ∀ k j, ¬ k = 108 → ¬ k = 109 → I' k j = I k j
  | 0, i, I, h => by
    refine ⟨I, ?_, fun j h1 h2 => by omega, fun _ _ => ⟨rfl, rfl⟩, fun _ _ _ _ => rfl⟩
    rw [qX8_goNight_107_h12_eq, if_pos (show (8 : Int32) ≤ Int32.ofNat i from (xr_le (a := 8) (by omega) (by omega)).mpr (by omega))]
  | m + 1, i, I, h => by
    have a1 : Int32.ofNat i + (1 : Int32) = Int32.ofNat (i + 1) := (Int32.ofNat_add i 1).symm
    have b1 := xt_nat (n := i) (by omega)
    have b2 : (Int32.ofNat i).toInt.toNat = i := by omega
    obtain ⟨I', g0, g1, g2, g3⟩ := yr_clr107 m (i + 1) (xq_upd (xq_upd I 108 i 0) 109 i 0) (by omega)
    refine ⟨I', ?_, fun j h1 h2 => ?_, fun j h1 => ?_, fun k j h h9 => ?_⟩
    · rw [qX8_goNight_107_h12_eq, if_neg (show ¬ (8 : Int32) ≤ Int32.ofNat i from fun z => by have := (xr_le (a := 8) (by omega) (by omega)).mp z; omega), b2, b1, if_pos (by omega), if_pos (by omega), a1]
      exact g0
    · by_cases hj : j = i
      · subst hj
        obtain ⟨q1, q2⟩ := g2 j (by omega)
        rw [q1, q2, xq_upd_n (by omega), xu_t, xu_t]
        exact ⟨rfl, rfl⟩
      · exact g1 j (by omega) h2
    · obtain ⟨q1, q2⟩ := g2 j (by omega)
      rw [q1, q2, xq_upd_n (by omega), xq_upd_n (by omega), xq_upd_n (by omega), xq_upd_n (by omega)]
      exact ⟨rfl, rfl⟩
    · rw [g3 k j h h9, xu_k h9, xu_k h]
set_option maxHeartbeats 2000000 in
theorem yr_nightl107 {be ni : Int32} {ro ca mo wi il ti T : Nat → Int32} (hn : n ≤ 8) (hn0 : n0 ≤ 40) (hro : ∀ i, i < 8 → -1 ≤ (ro i).toInt ∧ (ro i).toInt ≤ 7) : ∀ (m h : Nat) (I : Nat → Nat → Int32) (R : Nat → Nat → Nat) (M : Nat → Int32), h + m = n → I 94 1 = Int32.ofNat n → I 94 2 = be → I 94 20 = Int32.ofNat n0 → I 94 21 = 0 → R 94 18 = 102 → (∀ i, i < 40 → -128 ≤ (I 102 i).toInt ∧ (I 102 i).toInt ≤ 127) → yk_t I 102 n0 40 = T → I 107 24 = ni → (∀ i, i < 8 → I 107 i = ro i ∧ I 98 i = ca i ∧ I 96 i = mo i ∧ I 97 i = wi i ∧ I 107 (16 + i) = il i ∧ I 107 (8 + i) = ti i ∧ I 109 i = M i) → (-1 ≤ (yn_rn be ro ca mo wi il h).2.2.2.toInt ∧ (yn_rn be ro ca mo wi il h).2.2.2.toInt ≤ 7) → I 94 27 = (yn_rn be ro ca mo wi il h).1 → I 94 28 = (yn_rn be ro ca mo wi il h).2.1 → (∀ i, i < 8 → I 108 i = (yn_rn be ro ca mo wi il h).2.2.1 i) → ∃ (I' : Nat → Nat → Int32) (R' : Nat → Nat → Nat) (M' : Nat → Int32), qX8_goNight_107_h42 (d + 172 + 1) (yn_rn be ro ca mo wi il h).2.2.2 (Int32.ofNat h) (I, J, R) = qX8_goNight_107_h237 (d + 172 + 1) 0 (I', J, R') ∧ I' 94 27 = (yn_rn be ro ca mo wi il n).1 ∧ I' 94 28 = (yn_rn be ro ca mo wi il n).2.1 ∧ (∀ i, i < 8 → I' 108 i = (yn_rn be ro ca mo wi il n).2.2.1 i) ∧ (∀ i, i < 8 → I' 109 i = M' i) ∧ (∀ k j, ¬ k = 104 → ¬ k = 108 → ¬ k = 109 → ¬ (k = 94 ∧ (j = 13 ∨ j = 14 ∨ j = 15 ∨ j = 16 ∨ j = 27 ∨ j = 28)) → I' k j = I k j) ∧ (∀ k j, ¬ (k = 94 ∧ j = 12) → R' k j = R k j) ∧ (∀ Hd, yr_Hd T n0 ti wi mo ca ni Hd → (∀ i, i < 8 → M i = yr_m be ro ca mo wi il Hd h i) → ∀ i, i < 8 → M' i = yr_m be ro ca mo wi il Hd n i)
  | 0, h, I, R, M, hm, i1, i2, i3, i4, i5, i6, i7, i8, i9, i10, i11, i12, i13 => by
    have e : h = n := by omega
    subst e
    have i1' : (I, J, R).1 94 1 = Int32.ofNat h := i1
    refine ⟨I, R, M, ?_, i11, i12, i13, fun i hi => (i9 i hi).2.2.2.2.2.2, fun _ _ _ _ _ _ => rfl, fun _ _ _ => rfl, fun _ _ h => h⟩
    rw [qX8_goNight_107_h42_eq, i1', if_pos (Int32.le_refl _)]
  | m + 1, h, I, R, M, hm, i1, i2, i3, i4, i5, i6, i7, i8, i9, i10, i11, i12, i13 => by
    have i1' : (I, J, R).1 94 1 = Int32.ofNat n := i1
    have a1 : Int32.ofNat h + (1 : Int32) = Int32.ofNat (h + 1) := (Int32.ofNat_add h 1).symm
    have b1 := xt_nat (n := h) (by omega)
    have b2 : (Int32.ofNat h).toInt.toNat = h := by omega
    have hle : ¬ Int32.ofNat n ≤ Int32.ofNat h := fun z => by
      have := (xr_le (by omega) (by omega)).mp z
      omega
    obtain ⟨j1, j2, j3, j4, j5, j6, j7⟩ := i9 h (by omega)
    have er : (I, J, R).1 107 h = ro h := j1
    have hs : yn_rn be ro ca mo wi il (h + 1) = yn_r1 be ro ca mo wi il h (yn_rn be ro ca mo wi il h) := rfl
    rw [qX8_goNight_107_h42_eq, i1', if_neg hle, b2, b1, if_pos (by omega), er]
    generalize hst : yn_rn be ro ca mo wi il h = st at i10 i11 i12 i13 hs ⊢
    obtain ⟨gap, rod, rd, last⟩ := st
    have i10 : -1 ≤ last.toInt ∧ last.toInt ≤ 7 := i10
    have i11 : I 94 27 = gap := i11
    have i12 : I 94 28 = rod := i12
    have i13 : ∀ i, i < 8 → I 108 i = rd i := i13
    have em1 : ((-1 : Int32)).toInt = -1 := by decide
    -- the end of an hour
    have nxt : ∀ (I3 : Nat → Nat → Int32) (R3 : Nat → Nat → Nat) (M3 : Nat → Int32) (s : yn_T), yn_rn be ro ca mo wi il (h + 1) = s → (-1 ≤ s.2.2.2.toInt ∧ s.2.2.2.toInt ≤ 7) → I3 94 27 = s.1 → I3 94 28 = s.2.1 → (∀ i, i < 8 → I3 108 i = s.2.2.1 i) → (∀ i, i < 8 → I3 109 i = M3 i) → (∀ k j, ¬ k = 104 → ¬ k = 108 → ¬ k = 109 → ¬ (k = 94 ∧ (j = 13 ∨ j = 14 ∨ j = 15 ∨ j = 16 ∨ j = 27 ∨ j = 28)) → I3 k j = I k j) → (∀ k j, ¬ (k = 94 ∧ j = 12) → R3 k j = R k j) → (∀ Hd, yr_Hd T n0 ti wi mo ca ni Hd → (∀ i, i < 8 → M i = yr_m be ro ca mo wi il Hd h i) → ∀ i, i < 8 → M3 i = yr_m be ro ca mo wi il Hd (h + 1) i) → ∃ (I' : Nat → Nat → Int32) (R' : Nat → Nat → Nat) (M' : Nat → Int32), qX8_goNight_107_h42 (d + 172 + 1) s.2.2.2 (Int32.ofNat (h + 1)) (I3, J, R3) = qX8_goNight_107_h237 (d + 172 + 1) 0 (I', J, R') ∧ I' 94 27 = (yn_rn be ro ca mo wi il n).1 ∧ I' 94 28 = (yn_rn be ro ca mo wi il n).2.1 ∧ (∀ i, i < 8 → I' 108 i = (yn_rn be ro ca mo wi il n).2.2.1 i) ∧ (∀ i, i < 8 → I' 109 i = M' i) ∧ (∀ k j, ¬ k = 104 → ¬ k = 108 → ¬ k = 109 → ¬ (k = 94 ∧ (j = 13 ∨ j = 14 ∨ j = 15 ∨ j = 16 ∨ j = 27 ∨ j = 28)) → I' k j = I k j) ∧ (∀ k j, ¬ (k = 94 ∧ j = 12) → R' k j = R k j) ∧ (∀ Hd, yr_Hd T n0 ti wi mo ca ni Hd → (∀ i, i < 8 → M i = yr_m be ro ca mo wi il Hd h i) → ∀ i, i < 8 → M' i = yr_m be ro ca mo wi il Hd n i) := by
      intro I3 R3 M3 s u0 u1 u2 u3 u4 u5 u6 u7 u8
      subst u0
      obtain ⟨I', R', M', g0, g1, g2, g3, g4, g5, g6, g7⟩ := yr_nightl107 (be := be) (ni := ni) (ro := ro) (ca := ca) (mo := mo) (wi := wi) (il := il) (ti := ti) (T := T) hn hn0 hro m (h + 1) I3 R3 M3 (by omega) ((u6 94 1 (by decide) (by decide) (by decide) (by decide)).trans i1) ((u6 94 2 (by decide) (by decide) (by decide) (by decide)).trans i2) ((u6 94 20 (by decide) (by decide) (by decide) (by decide)).trans i3) ((u6 94 21 (by decide) (by decide) (by decide) (by decide)).trans i4) ((u7 94 18 (by decide)).trans i5) (fun i hi => by rw [u6 102 i (by decide) (by decide) (by decide) (by omega)]; exact i6 i hi) (by
        rw [← i7]
        funext p
        unfold yk_t
        rw [u6 102 p (by decide) (by decide) (by decide) (by omega)]) ((u6 107 24 (by decide) (by decide) (by decide) (by decide)).trans i8) (fun i hi => by
        obtain ⟨w1, w2, w3, w4, w5, w6, w7⟩ := i9 i hi
        exact ⟨(u6 107 i (by decide) (by decide) (by decide) (by omega)).trans w1, (u6 98 i (by decide) (by decide) (by decide) (by omega)).trans w2, (u6 96 i (by decide) (by decide) (by decide) (by omega)).trans w3, (u6 97 i (by decide) (by decide) (by decide) (by omega)).trans w4, (u6 107 (16 + i) (by decide) (by decide) (by decide) (by omega)).trans w5, (u6 107 (8 + i) (by decide) (by decide) (by decide) (by omega)).trans w6, u5 i hi⟩) u1 u2 u3 u4
      exact ⟨I', R', M', g0, g1, g2, g3, g4, fun k j h1 h2 h3 h4 => (g5 k j h1 h2 h3 h4).trans (u6 k j h1 h2 h3 h4), fun k j hk => (g6 k j hk).trans (u7 k j hk), fun Hd h1 h2 => g7 Hd h1 (u8 Hd h1 h2)⟩
    -- not ridden
    have miss : ¬ (¬ ro h = -1 ∧ yhb (ca (ro h).toInt.toNat) (Int32.ofNat h) ∧ il (ro h).toInt.toNat = 0 ∧ rd (ro h).toInt.toNat < mo (ro h).toInt.toNat) → ∃ (I' : Nat → Nat → Int32) (R' : Nat → Nat → Nat) (M' : Nat → Int32), qX8_goNight_107_h106 (d + 172 + 1) last (Int32.ofNat h) (ro h) (I, J, R) = qX8_goNight_107_h237 (d + 172 + 1) 0 (I', J, R') ∧ I' 94 27 = (yn_rn be ro ca mo wi il n).1 ∧ I' 94 28 = (yn_rn be ro ca mo wi il n).2.1 ∧ (∀ i, i < 8 → I' 108 i = (yn_rn be ro ca mo wi il n).2.2.1 i) ∧ (∀ i, i < 8 → I' 109 i = M' i) ∧ (∀ k j, ¬ k = 104 → ¬ k = 108 → ¬ k = 109 → ¬ (k = 94 ∧ (j = 13 ∨ j = 14 ∨ j = 15 ∨ j = 16 ∨ j = 27 ∨ j = 28)) → I' k j = I k j) ∧ (∀ k j, ¬ (k = 94 ∧ j = 12) → R' k j = R k j) ∧ (∀ Hd, yr_Hd T n0 ti wi mo ca ni Hd → (∀ i, i < 8 → M i = yr_m be ro ca mo wi il Hd h i) → ∀ i, i < 8 → M' i = yr_m be ro ca mo wi il Hd n i) := by
      intro hno
      have hs1 : yn_rn be ro ca mo wi il (h + 1) = (gap ||| ybit h, rod, rd, -1) := by
        rw [hs, yn_r1_F hno]
      rw [qX8_goNight_107_h106_eq, qX8_goNight_107_h217_eq, if_pos rfl, qX8_goNight_107_h228_eq, a1]
      show ∃ (I' : Nat → Nat → Int32) (R' : Nat → Nat → Nat) (M' : Nat → Int32), qX8_goNight_107_h42 (d + 172 + 1) (-1) (Int32.ofNat (h + 1)) (xq_upd I 94 27 (I 94 27 ||| ybit h), J, R) = _ ∧ _
      rw [i11]
      exact nxt (xq_upd I 94 27 (gap ||| ybit h)) R M _ hs1 (by show -1 ≤ ((-1 : Int32)).toInt ∧ ((-1 : Int32)).toInt ≤ 7; decide) xu_t (by rw [xq_upd_n (by decide)]; exact i12) (fun i hi => by rw [xq_upd_n (by omega)]; exact i13 i hi) (fun i hi => by rw [xq_upd_n (by omega)]; exact (i9 i hi).2.2.2.2.2.2) (fun k j h1 h2 h3 h4 => xq_upd_n (by omega)) (fun _ _ _ => rfl) (fun Hd h1 h2 i hi => by rw [yr_m_F (by rw [hst]; exact hno)]; exact h2 i hi)
    by_cases q0 : ro h = -1
    · rw [if_pos q0]
      exact miss (fun z => z.1 q0)
    · have hr0 := hro h (by omega)
      have hr8 : 0 ≤ (ro h).toInt ∧ (ro h).toInt < ((8 : Nat) : Int) := by
        have : ¬ (ro h).toInt = -1 := fun z => q0 (by rw [xt_eq, z]; decide)
        omega
      have hri : (ro h).toInt.toNat < 8 := by omega
      have ero : ro h = Int32.ofNat (ro h).toInt.toNat := by
        rw [xt_eq, xt_nat (by omega)]
        omega
      have a16 : (16 : Int32) + ro h = Int32.ofNat (16 + (ro h).toInt.toNat) := by
        rw [Int32.ofNat_add, ← ero]
        rfl
      have b16 := xt_nat (n := 16 + (ro h).toInt.toNat) (by omega)
      have c16 : (Int32.ofNat (16 + (ro h).toInt.toNat)).toInt.toNat = 16 + (ro h).toInt.toNat := by omega
      obtain ⟨w1, w2, w3, w4, w5, w6, w7⟩ := i9 _ hri
      have e98 : (I, J, R).1 98 (ro h).toInt.toNat = ca (ro h).toInt.toNat := w2
      have e16 : (I, J, R).1 107 (16 + (ro h).toInt.toNat) = il (ro h).toInt.toNat := w5
      have e96 : (I, J, R).1 96 (ro h).toInt.toNat = mo (ro h).toInt.toNat := w3
      have e108 : (I, J, R).1 108 (ro h).toInt.toNat = rd (ro h).toInt.toNat := i13 _ hri
      rw [if_neg q0, if_pos hr8, e98, yr_has, xb_I1]
      by_cases q1 : yhb (ca (ro h).toInt.toNat) (Int32.ofNat h)
      · rw [yIF_T q1, if_neg (by decide), a16, c16, b16, if_pos (by omega), e16]
        by_cases q2 : il (ro h).toInt.toNat = 0
        · rw [if_neg (fun z => z q2), if_pos hr8, if_pos hr8, e96, e108]
          by_cases q3 : rd (ro h).toInt.toNat < mo (ro h).toInt.toNat
          · rw [if_neg (Int32.not_le.mpr q3), if_pos hr8, if_pos hr8, if_pos hr8]
            generalize hI1 : xq_upd (I, J, R).1 108 (ro h).toInt.toNat (rd (ro h).toInt.toNat + 1) = I1
            have f1 : ∀ k j, ¬ k = 108 → I1 k j = I k j := fun k j hk => by rw [← hI1, xu_k hk]
            have f108 : ∀ i, i < 8 → I1 108 i = xr_up rd (ro h).toInt.toNat (rd (ro h).toInt.toNat + 1) i := by
              intro i hi
              rw [← hI1]
              unfold xr_up
              by_cases hq : i = (ro h).toInt.toNat
              · rw [if_pos hq, hq, xu_t]
              · rw [if_neg hq, xq_upd_n (fun z => hq z.2)]
                exact i13 i hi
            obtain ⟨v, I2, R2, g0, g1, g2, g3, g4, g5, g6⟩ := yr_hard107 (d := d + 1) (J := J) (R := R) (I := I1) (r := (ro h).toInt.toNat) (h := h) (n0 := n0) hri (by omega) hn0 ((f1 94 20 (by decide)).trans i3) i5 (fun i hi => by rw [f1 102 i (by decide)]; exact i6 i hi) ((f1 94 21 (by decide)).trans i4)
            rw [← ero] at g0
            have g0' : xq_D xqP (d + 172 + 1) 225 [.ref 94, .ref 107, .int (ro h), .int (Int32.ofNat h)] (I1, (I, J, R).2) = some (some (.int v), I2, J, R2) := by
              exact g0
            rw [g0', xb_I1, if_pos hr8]
            have f2 : ∀ k j, ¬ k = 104 → ¬ k = 108 → ¬ (k = 94 ∧ (j = 13 ∨ j = 14 ∨ j = 15 ∨ j = 16)) → I2 k j = I k j := fun k j h1 h2 h3 => (g1 k j h1 h3).trans (f1 k j h2)
            have e109 : (I, J, R).1 109 (ro h).toInt.toNat = M (ro h).toInt.toNat := w7
            have e28 : (I2, J, R2).1 94 28 = rod := (f2 94 28 (by decide) (by decide) (by decide)).trans i12
            rw [e109, e28]
            generalize hI3 : xq_upd (xq_upd (I2, J, R2).1 109 (ro h).toInt.toNat (M (ro h).toInt.toNat + v)) 94 28 (rod ||| (1 : Int32) <<< (Int32.ofNat h &&& 31)) = I3
            have f3 : ∀ k j, ¬ k = 104 → ¬ k = 108 → ¬ k = 109 → ¬ (k = 94 ∧ (j = 13 ∨ j = 14 ∨ j = 15 ∨ j = 16 ∨ j = 28)) → I3 k j = I k j := fun k j h1 h2 h3 h4 => by rw [← hI3, xq_upd_n (by omega), xu_k h3]; exact f2 k j h1 h2 (by omega)
            have f3a : I3 94 28 = rod ||| ybit h := by rw [← hI3, xu_t]; rfl
            have f3b : ∀ i, i < 8 → I3 108 i = xr_up rd (ro h).toInt.toNat (rd (ro h).toInt.toNat + 1) i := fun i hi => by rw [← hI3, xq_upd_n (by omega), xu_k (by decide)]; exact (g1 108 i (by decide) (by omega)).trans (f108 i hi)
            have f3c : ∀ i, i < 8 → I3 109 i = xr_up M (ro h).toInt.toNat (M (ro h).toInt.toNat + v) i := by
              intro i hi
              rw [← hI3, xq_upd_n (by omega)]
              unfold xr_up
              by_cases hq : i = (ro h).toInt.toNat
              · rw [if_pos hq, hq, xu_t]
              · rw [if_neg hq, xq_upd_n (fun z => hq z.2)]
                exact (f2 109 i (by decide) (by decide) (by omega)).trans (i9 i hi).2.2.2.2.2.2
            have hyes : ∀ g, (if ¬ last = -1 ∧ ¬ last = ro h ∧ be < yab (wi last.toInt.toNat - wi (ro h).toInt.toNat) then gap ||| ybit h else gap) = g → yn_rn be ro ca mo wi il (h + 1) = (g, rod ||| ybit h, xr_up rd (ro h).toInt.toNat (rd (ro h).toInt.toNat + 1), ro h) := by
              intro g hg
              have hT := yn_r1_T (be := be) (ro := ro) (ca := ca) (mo := mo) (wi := wi) (il := il) (h := h) (s := (gap, rod, rd, last)) ⟨q0, q1, q2, q3⟩
              subst hg
              exact hs.trans hT
            have u8p : ∀ Hd, yr_Hd T n0 ti wi mo ca ni Hd → (∀ i, i < 8 → M i = yr_m be ro ca mo wi il Hd h i) → ∀ i, i < 8 → xr_up M (ro h).toInt.toNat (M (ro h).toInt.toNat + v) i = yr_m be ro ca mo wi il Hd (h + 1) i := by
              intro Hd h1 h2 i hi
              have hv : v = Hd (ro h).toInt.toNat h := by
                obtain ⟨k1, k2⟩ := h1 (ro h).toInt.toNat h hri (by omega)
                by_cases hz : n0 = 0
                · rw [k1 hz, g5 hz, f1 107 _ (by decide), f1 97 _ (by decide), w6, w4]
                · obtain ⟨x, hx1, hx2⟩ := k2 (by omega)
                  rw [hx2]
                  refine g6 (by omega) x ?_
                  have eT : yk_t I1 102 n0 40 = T := by
                    rw [← i7]
                    funext p
                    unfold yk_t
                    rw [f1 102 p (by decide)]
                  rw [eT, f1 107 _ (by decide), f1 97 _ (by decide), f1 96 _ (by decide), f1 107 24 (by decide), f1 98 _ (by decide), w6, w4, w3, i8, w2]
                  exact hx1
              rw [yr_m_T (by rw [hst]; exact ⟨q0, q1, q2, q3⟩), hv]
              unfold xr_up
              by_cases hq : i = (ro h).toInt.toNat
              · rw [if_pos hq, if_pos hq, h2 _ hri]
              · rw [if_neg hq, if_neg hq]
                exact h2 i hi
            have e27 : I3 94 27 = gap := (f3 94 27 (by decide) (by decide) (by decide) (by decide)).trans i11
            have plain : (¬ (¬ last = -1 ∧ ¬ last = ro h ∧ be < yab (wi last.toInt.toNat - wi (ro h).toInt.toNat))) → ∃ (I' : Nat → Nat → Int32) (R' : Nat → Nat → Nat) (M' : Nat → Int32), qX8_goNight_107_h217 (d + 172 + 1) last (Int32.ofNat h) (ro h) 1 (I3, J, R2) = qX8_goNight_107_h237 (d + 172 + 1) 0 (I', J, R') ∧ I' 94 27 = (yn_rn be ro ca mo wi il n).1 ∧ I' 94 28 = (yn_rn be ro ca mo wi il n).2.1 ∧ (∀ i, i < 8 → I' 108 i = (yn_rn be ro ca mo wi il n).2.2.1 i) ∧ (∀ i, i < 8 → I' 109 i = M' i) ∧ (∀ k j, ¬ k = 104 → ¬ k = 108 → ¬ k = 109 → ¬ (k = 94 ∧ (j = 13 ∨ j = 14 ∨ j = 15 ∨ j = 16 ∨ j = 27 ∨ j = 28)) → I' k j = I k j) ∧ (∀ k j, ¬ (k = 94 ∧ j = 12) → R' k j = R k j) ∧ (∀ Hd, yr_Hd T n0 ti wi mo ca ni Hd → (∀ i, i < 8 → M i = yr_m be ro ca mo wi il Hd h i) → ∀ i, i < 8 → M' i = yr_m be ro ca mo wi il Hd n i) := by
              intro hno
              rw [qX8_goNight_107_h217_eq, if_neg (by decide), qX8_goNight_107_h228_eq, a1]
              exact nxt I3 R2 _ _ (hyes gap (if_neg hno)) (by show -1 ≤ (ro h).toInt ∧ (ro h).toInt ≤ 7; exact hr0) e27 f3a f3b f3c (fun k j h1 h2 h3 h4 => f3 k j h1 h2 h3 (by omega)) g2 u8p
            by_cases q4 : last = -1
            · rw [if_pos q4]
              exact plain (fun z => z.1 q4)
            · rw [if_neg q4]
              by_cases q5 : last = ro h
              · rw [if_pos q5]
                exact plain (fun z => z.2.1 q5)
              · have hl8 : 0 ≤ last.toInt ∧ last.toInt < ((8 : Nat) : Int) := by
                  have : ¬ last.toInt = -1 := fun z => q4 (by rw [xt_eq, z]; decide)
                  omega
                have x1 : (I2, J, R2).1 97 last.toInt.toNat = wi last.toInt.toNat := (f2 97 _ (by decide) (by decide) (by omega)).trans (i9 _ (by omega)).2.2.2.1
                have x2 : (I2, J, R2).1 97 (ro h).toInt.toNat = wi (ro h).toInt.toNat := (f2 97 _ (by decide) (by decide) (by omega)).trans w4
                have x3 : (I2, J, R2).1 94 2 = be := (f2 94 2 (by decide) (by decide) (by decide)).trans i2
                have x4 : (I2, J, R2).1 94 27 = gap := (f2 94 27 (by decide) (by decide) (by decide)).trans i11
                rw [if_neg q5, if_pos hl8, if_pos hr8, x1, x2, x3, x4]
                by_cases q6 : yab (wi last.toInt.toNat - wi (ro h).toInt.toNat) ≤ be
                · rw [if_pos (show (if 0 ≤ wi last.toInt.toNat - wi (ro h).toInt.toNat then wi last.toInt.toNat - wi (ro h).toInt.toNat else 0 - (wi last.toInt.toNat - wi (ro h).toInt.toNat)) ≤ be from q6)]
                  exact plain (fun z => absurd z.2.2 (Int32.not_lt.mpr q6))
                · rw [if_neg (show ¬ (if 0 ≤ wi last.toInt.toNat - wi (ro h).toInt.toNat then wi last.toInt.toNat - wi (ro h).toInt.toNat else 0 - (wi last.toInt.toNat - wi (ro h).toInt.toNat)) ≤ be from q6), qX8_goNight_107_h217a_eq, if_neg (by decide), qX8_goNight_107_h228_eq, a1]
                  exact nxt (xq_upd I3 94 27 (gap ||| ybit h)) R2 (xr_up M (ro h).toInt.toNat (M (ro h).toInt.toNat + v)) _ (hyes (gap ||| ybit h) (if_pos ⟨q4, q5, Int32.not_le.mp q6⟩)) (by show -1 ≤ (ro h).toInt ∧ (ro h).toInt ≤ 7; exact hr0) xu_t (by rw [xq_upd_n (by decide)]; exact f3a) (fun i hi => by rw [xq_upd_n (by omega)]; exact f3b i hi) (fun i hi => by rw [xq_upd_n (by omega)]; exact f3c i hi) (fun k j h1 h2 h3 h4 => by rw [xq_upd_n (by omega)]; exact f3 k j h1 h2 h3 (by omega)) g2 u8p
          · rw [if_pos (Int32.not_lt.mp q3)]
            exact miss (fun z => q3 z.2.2.2)
        · rw [if_pos q2]
          exact miss (fun z => q2 z.2.2.1)
      · rw [yIF_F q1, if_pos rfl]
        exact miss (fun z => q1 z.2.1)
end YNF107
