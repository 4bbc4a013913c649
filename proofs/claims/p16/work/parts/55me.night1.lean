/-! A NIGHT of the class -/
def yab (x : Int32) : Int32 := if 0 ≤ x then x else 0 - x
def ybit (h : Nat) : Int32 := (1 : Int32) <<< (Int32.ofNat h &&& 31)
def yhb (x : Int32) (h : Int32) : Prop := (x >>> (h &&& 31)) &&& (1 : Int32) = (1 : Int32)
def ycl (v lo hi : Int32) : Int32 := if lo < (if v < hi then v else hi) then (if v < hi then v else hi) else lo
abbrev yn_T : Type := Int32 × Int32 × (Nat → Int32) × Int32
/-- an hour: gaps, hours ridden, how many each rode, who rode last -/
noncomputable def yn_1 (c : Nat) (be il : Int32) (ro ca mo wi : Nat → Int32) (h : Nat) (s : yn_T) : yn_T := match Classical.propDecidable (((0 ≤ (ro h).toInt ∧ (ro h).toInt < (c : Int)) ∧ yhb (ca (ro h).toInt.toNat) (Int32.ofNat h) ∧ ¬ yhb il (ro h)) ∧ s.2.2.1 (ro h).toInt.toNat < mo (ro h).toInt.toNat) with
  | .isTrue _ => (if ((0 ≤ s.2.2.2.toInt ∧ s.2.2.2.toInt < (c : Int)) ∧ (0 ≤ (ro h).toInt ∧ (ro h).toInt < (c : Int)) ∧ ¬ s.2.2.2 = ro h) ∧ be < yab (wi s.2.2.2.toInt.toNat - wi (ro h).toInt.toNat) then s.1 ||| ybit h else s.1, s.2.1 ||| ybit h, xr_up s.2.2.1 (ro h).toInt.toNat (s.2.2.1 (ro h).toInt.toNat + 1), ro h)
  | .isFalse _ => (s.1 ||| ybit h, s.2.1, s.2.2.1, -1)
noncomputable def yn_n (c : Nat) (be il : Int32) (ro ca mo wi : Nat → Int32) : Nat → yn_T
  | 0 => (0, 0, fun _ => 0, -1)
  | h + 1 => yn_1 c be il ro ca mo wi h (yn_n c be il ro ca mo wi h)
section YNA
variable {d c : Nat} {I : Nat → Nat → Int32} {J : Nat → Nat → Int64} {R : Nat → Nat → Nat} {x y v lo hi : Int32} {S : xq_S}
theorem yc_between : xq_D xqP (d + 1) 107 [.int v, .int lo, .int hi] S = some (some (.int (ycl v lo hi)), S) := by
  rw [qX7_between_eq]
  rfl
theorem ycl_r (h : lo.toInt ≤ hi.toInt) : lo.toInt ≤ (ycl v lo hi).toInt ∧ (ycl v lo hi).toInt ≤ hi.toInt := by
  unfold ycl
  by_cases h1 : v < hi
  · rw [if_pos h1]
    have := xt_lt.mp h1
    by_cases h2 : lo < v
    · rw [if_pos h2]
      have := xt_lt.mp h2
      omega
    · rw [if_neg h2]
      omega
  · rw [if_neg h1]
    by_cases h2 : lo < hi
    · rw [if_pos h2]
      omega
    · rw [if_neg h2]
      omega
theorem yc_fill8 : ∀ (m i : Nat) (I : Nat → Nat → Int32), i + m = 8 → ∃ I', qJ7_fill_53178_8_h5 d x (Int32.ofNat i) (Int32.ofNat 8) (I, J, R) = some (none, I', J, R) ∧ (∀ j, i ≤ j → j < 8 → I' 8 j = x) ∧ (∀ j, j < i → I' 8 j = I 8 j) ∧ ∀ k j, ¬ k = 8 → I' k j = I k j
  | 0, i, I, h => by
    refine ⟨I, ?_, fun j h1 h2 => by omega, fun _ _ => rfl, fun _ _ _ => rfl⟩
    rw [qJ7_fill_53178_8_h5_eq, if_pos ((xr_le (by omega) (by omega)).mpr (by omega))]
  | m + 1, i, I, h => by
    have a1 : Int32.ofNat i + (1 : Int32) = Int32.ofNat (i + 1) := (Int32.ofNat_add i 1).symm
    have b1 := xt_nat (n := i) (by omega)
    have b2 : (Int32.ofNat i).toInt.toNat = i := by omega
    obtain ⟨I', g0, g1, g2, g3⟩ := yc_fill8 m (i + 1) (xq_upd I 8 i x) (by omega)
    refine ⟨I', ?_, fun j h1 h2 => ?_, fun j h1 => ?_, fun k j h => ?_⟩
    · rw [qJ7_fill_53178_8_h5_eq, if_neg (fun z => by have := (xr_le (by omega) (by omega)).mp z; omega), b2, b1, if_pos (by omega), a1]
      exact g0
    · by_cases hj : j = i
      · subst hj
        rw [g2 j (by omega), xu_t]
      · exact g1 j (by omega) h2
    · rw [g2 j (by omega), xq_upd_n (by omega)]
    · rw [g3 k j h, xq_upd_n (by omega)]
theorem yc_fill9 : ∀ (m i : Nat) (I : Nat → Nat → Int32), i + m = 8 → ∃ I', qJ7_fill_53178_9_h5 d x (Int32.ofNat i) (Int32.ofNat 8) (I, J, R) = some (none, I', J, R) ∧ (∀ j, i ≤ j → j < 8 → I' 9 j = x) ∧ (∀ j, j < i → I' 9 j = I 9 j) ∧ ∀ k j, ¬ k = 9 → I' k j = I k j
  | 0, i, I, h => by
    refine ⟨I, ?_, fun j h1 h2 => by omega, fun _ _ => rfl, fun _ _ _ => rfl⟩
    rw [qJ7_fill_53178_9_h5_eq, if_pos ((xr_le (by omega) (by omega)).mpr (by omega))]
  | m + 1, i, I, h => by
    have a1 : Int32.ofNat i + (1 : Int32) = Int32.ofNat (i + 1) := (Int32.ofNat_add i 1).symm
    have b1 := xt_nat (n := i) (by omega)
    have b2 : (Int32.ofNat i).toInt.toNat = i := by omega
    obtain ⟨I', g0, g1, g2, g3⟩ := yc_fill9 m (i + 1) (xq_upd I 9 i x) (by omega)
    refine ⟨I', ?_, fun j h1 h2 => ?_, fun j h1 => ?_, fun k j h => ?_⟩
    · rw [qJ7_fill_53178_9_h5_eq, if_neg (fun z => by have := (xr_le (by omega) (by omega)).mp z; omega), b2, b1, if_pos (by omega), a1]
      exact g0
    · by_cases hj : j = i
      · subst hj
        rw [g2 j (by omega), xu_t]
      · exact g1 j (by omega) h2
    · rw [g2 j (by omega), xq_upd_n (by omega)]
    · rw [g3 k j h, xq_upd_n (by omega)]
theorem yc_differ (hx : 0 ≤ x.toInt ∧ x.toInt < ((8 : Nat) : Int)) (hy : 0 ≤ y.toInt ∧ y.toInt < ((8 : Nat) : Int)) : xq_D xqP (d + 1) 19 [.ref 3, .int x, .int y] (I, J, R) = some (some (.int (yab (I 6 x.toInt.toNat - I 6 y.toInt.toNat))), I, J, R) := by
  rw [qX0_differ_eq, if_pos hx, if_pos hy]
  rfl
end YNA
section YNB15
variable {d c : Nat} {I : Nat → Nat → Int32} {J : Nat → Nat → Int64} {R : Nat → Nat → Nat} {r : Int32}
theorem yc_able15 {h : Nat} (hI : I 3 6 = Int32.ofNat c) (hc : c ≤ 8) : ∃ a, xq_D xqP (d + 2) 23 [.ref 3, .ref 15, .int r, .int (Int32.ofNat h)] (I, J, R) = some (some (.int a), I, J, R) ∧ ((a = 1 ∧ (0 ≤ r.toInt ∧ r.toInt < (c : Int)) ∧ yhb (I 4 r.toInt.toNat) (Int32.ofNat h) ∧ ¬ yhb (I 15 2) r) ∨ (a = 0 ∧ ¬ ((0 ≤ r.toInt ∧ r.toInt < (c : Int)) ∧ yhb (I 4 r.toInt.toNat) (Int32.ofNat h) ∧ ¬ yhb (I 15 2) r))) := by
  rw [qX0_isAble_15_eq, yc_has hI hc]
  by_cases h1 : 0 ≤ r.toInt ∧ r.toInt < (c : Int)
  · rw [if_pos h1, xb_I1, if_neg (by decide), if_pos (by omega)]
    by_cases h2 : yhb (I 4 r.toInt.toNat) (Int32.ofNat h)
    · rw [if_neg (show ¬ ¬ ((I, J, R).1 4 r.toInt.toNat >>> (Int32.ofNat h &&& 31)) &&& (1 : Int32) = 1 from fun z => z h2), qX5_isIll_eq]
      by_cases h3 : yhb (I 15 2) r
      · rw [if_neg (show ¬ ¬ ((I, J, R).1 15 2 >>> (r &&& 31)) &&& (1 : Int32) = 1 from fun z => z h3), xb_I1, if_pos (by decide)]
        exact ⟨0, rfl, Or.inr ⟨rfl, fun z => z.2.2 h3⟩⟩
      · rw [if_pos (show ¬ ((I, J, R).1 15 2 >>> (r &&& 31)) &&& (1 : Int32) = 1 from h3), xb_I1, if_neg (by decide)]
        exact ⟨1, rfl, Or.inl ⟨rfl, h1, h2, h3⟩⟩
    · rw [if_pos (show ¬ ((I, J, R).1 4 r.toInt.toNat >>> (Int32.ofNat h &&& 31)) &&& (1 : Int32) = 1 from h2)]
      exact ⟨0, rfl, Or.inr ⟨rfl, fun z => h2 z.2.1⟩⟩
  · rw [if_neg h1, xb_I1, if_pos rfl]
    exact ⟨0, rfl, Or.inr ⟨rfl, fun z => h1 z.1⟩⟩
theorem yc_watchl15 {n : Nat} {be il : Int32} {ro ca mo wi : Nat → Int32} (hn : n ≤ 8) (hc : c ≤ 8) : ∀ (m h : Nat) (I : Nat → Nat → Int32), h + m = n → I 3 7 = Int32.ofNat n → I 3 6 = Int32.ofNat c → I 3 8 = be → I 15 2 = il → (∀ i, i < 8 → I 16 i = ro i ∧ I 4 i = ca i ∧ I 5 i = mo i ∧ I 6 i = wi i) → I 3 10 = (yn_n c be il ro ca mo wi h).1 → I 3 11 = (yn_n c be il ro ca mo wi h).2.1 → (∀ i, i < 8 → I 8 i = (yn_n c be il ro ca mo wi h).2.2.1 i) → ∃ I', qX0_watch_15_h22 (d + 3) (yn_n c be il ro ca mo wi h).2.2.2 (Int32.ofNat h) (I, J, R) = some (none, I', J, R) ∧ I' 3 10 = (yn_n c be il ro ca mo wi n).1 ∧ I' 3 11 = (yn_n c be il ro ca mo wi n).2.1 ∧ (∀ i, i < 8 → I' 8 i = (yn_n c be il ro ca mo wi n).2.2.1 i) ∧ ∀ k j, ¬ k = 8 → ¬ (k = 3 ∧ (j = 10 ∨ j = 11)) → I' k j = I k j
  | 0, h, I, hm, i1, i2, i3, i4, i5, i6, i7, i8 => by
    have e : h = n := by omega
    subst e
    have i1' : (I, J, R).1 3 7 = Int32.ofNat h := i1
    refine ⟨I, ?_, i6, i7, i8, fun _ _ _ _ => rfl⟩
    rw [qX0_watch_15_h22_eq, i1', if_pos (Int32.le_refl _)]
  | m + 1, h, I, hm, i1, i2, i3, i4, i5, i6, i7, i8 => by
    have i1' : (I, J, R).1 3 7 = Int32.ofNat n := i1
    have a1 : Int32.ofNat h + (1 : Int32) = Int32.ofNat (h + 1) := (Int32.ofNat_add h 1).symm
    have b1 := xt_nat (n := h) (by omega)
    have b2 : (Int32.ofNat h).toInt.toNat = h := by omega
    have hle : ¬ Int32.ofNat n ≤ Int32.ofNat h := fun z => by
      have := (xr_le (by omega) (by omega)).mp z
      omega
    have er : (I, J, R).1 16 h = ro h := (i5 h (by omega)).1
    have hs : yn_n c be il ro ca mo wi (h + 1) = yn_1 c be il ro ca mo wi h (yn_n c be il ro ca mo wi h) := rfl
    rw [qX0_watch_15_h22_eq, i1', if_neg hle, b2, b1, if_pos (by omega), er]
    obtain ⟨a, ha, hq⟩ := yc_able15 (d := d + 1) (I := I) (J := J) (R := R) (r := ro h) (h := h) i2 hc
    rw [ha, xb_I1]
    generalize hst : yn_n c be il ro ca mo wi h = st at i6 i7 i8 hs ⊢
    obtain ⟨gap, rod, rd, last⟩ := st
    have i6 : I 3 10 = gap := i6
    have i7 : I 3 11 = rod := i7
    have i8 : ∀ i, i < 8 → I 8 i = rd i := i8
    -- not ridden
    have miss : ¬ (((0 ≤ (ro h).toInt ∧ (ro h).toInt < (c : Int)) ∧ yhb (ca (ro h).toInt.toNat) (Int32.ofNat h) ∧ ¬ yhb il (ro h)) ∧ rd (ro h).toInt.toNat < mo (ro h).toInt.toNat) → ∃ I', qX0_watch_15_h66 (d + 3) last (Int32.ofNat h) (ro h) (I, J, R) = some (none, I', J, R) ∧ I' 3 10 = (yn_n c be il ro ca mo wi n).1 ∧ I' 3 11 = (yn_n c be il ro ca mo wi n).2.1 ∧ (∀ i, i < 8 → I' 8 i = (yn_n c be il ro ca mo wi n).2.2.1 i) ∧ ∀ k j, ¬ k = 8 → ¬ (k = 3 ∧ (j = 10 ∨ j = 11)) → I' k j = I k j := by
      intro hno
      have hs1 : yn_n c be il ro ca mo wi (h + 1) = (gap ||| ybit h, rod, rd, -1) := by
        rw [hs]
        unfold yn_1
        split
        · rename_i q _
          exact absurd q hno
        · rfl
      obtain ⟨I', g0, g1, g2, g3, g4⟩ := yc_watchl15 (be := be) (il := il) (ro := ro) (ca := ca) (mo := mo) (wi := wi) hn hc m (h + 1) (xq_upd I 3 10 (gap ||| ybit h)) (by omega) (by rw [xq_upd_n (by omega)]; exact i1) (by rw [xq_upd_n (by omega)]; exact i2) (by rw [xq_upd_n (by omega)]; exact i3) (by rw [xq_upd_n (by omega)]; exact i4) (fun i hi => by rw [xq_upd_n (by omega), xq_upd_n (by omega), xq_upd_n (by omega), xq_upd_n (by omega)]; exact i5 i hi) (by rw [hs1, xu_t]) (by rw [hs1, xq_upd_n (by omega)]; exact i7) (fun i hi => by rw [hs1, xq_upd_n (by omega)]; exact i8 i hi)
      refine ⟨I', ?_, g1, g2, g3, fun k j h1 h2 => by rw [g4 k j h1 h2, xq_upd_n (by omega)]⟩
      rw [qX0_watch_15_h66_eq, a1]
      rw [hs1] at g0
      show qX0_watch_15_h22 (d + 3) (-1) (Int32.ofNat (h + 1)) (xq_upd I 3 10 (I 3 10 ||| ybit h), J, R) = _
      rw [i6]
      exact g0
    rcases hq with ⟨rfl, q1, q2, q3⟩ | ⟨rfl, q1⟩
    · have hr8 : 0 ≤ (ro h).toInt ∧ (ro h).toInt < ((8 : Nat) : Int) := by omega
      have hri : (ro h).toInt.toNat < 8 := by omega
      have e4 : I 4 (ro h).toInt.toNat = ca (ro h).toInt.toNat := (i5 _ hri).2.1
      have e5 : (I, J, R).1 5 (ro h).toInt.toNat = mo (ro h).toInt.toNat := (i5 _ hri).2.2.1
      have e8 : (I, J, R).1 8 (ro h).toInt.toNat = rd (ro h).toInt.toNat := i8 _ hri
      rw [if_neg (by decide), if_pos hr8, if_pos hr8, e8, e5]
      rw [e4] at q2
      rw [i4] at q3
      by_cases q4 : rd (ro h).toInt.toNat < mo (ro h).toInt.toNat
      · rw [if_pos q4, if_pos hr8, if_pos hr8]
        have i11 : (I, J, R).1 3 11 = rod := i7
        rw [i11]
        generalize hI2 : xq_upd (xq_upd (I, J, R).1 8 (ro h).toInt.toNat (rd (ro h).toInt.toNat + 1)) 3 11 (rod ||| (1 : Int32) <<< (Int32.ofNat h &&& 31)) = I2
        have f2 : ∀ k j, ¬ k = 8 → ¬ (k = 3 ∧ j = 11) → I2 k j = I k j := fun k j h1 h2 => by rw [← hI2, xq_upd_n h2, xq_upd_n (fun z => h1 z.1)]
        have f8 : ∀ i, i < 8 → I2 8 i = xr_up rd (ro h).toInt.toNat (rd (ro h).toInt.toNat + 1) i := by
          intro i hi
          rw [← hI2, xq_upd_n (by omega)]
          unfold xr_up
          by_cases hq : i = (ro h).toInt.toNat
          · rw [if_pos hq, hq, xu_t]
          · rw [if_neg hq, xq_upd_n (fun z => hq z.2)]
            exact i8 i hi
        have f11 : I2 3 11 = rod ||| ybit h := by
          rw [← hI2, xu_t]
          rfl
        rw [yc_two (d := d + 1) (I := I2) ((f2 3 6 (by decide) (by decide)).trans i2) hc, xb_I1]
        -- the end of the hour
        have fin : ∀ (I3 : Nat → Nat → Int32) (g : Int32), (∀ k j, ¬ (k = 3 ∧ j = 10) → I3 k j = I2 k j) → I3 3 10 = g → yn_n c be il ro ca mo wi (h + 1) = (g, rod ||| ybit h, xr_up rd (ro h).toInt.toNat (rd (ro h).toInt.toNat + 1), ro h) → ∃ I', qX0_watch_15_h142 (d + 3) last (Int32.ofNat h) (ro h) (I3, J, R) = some (none, I', J, R) ∧ I' 3 10 = (yn_n c be il ro ca mo wi n).1 ∧ I' 3 11 = (yn_n c be il ro ca mo wi n).2.1 ∧ (∀ i, i < 8 → I' 8 i = (yn_n c be il ro ca mo wi n).2.2.1 i) ∧ ∀ k j, ¬ k = 8 → ¬ (k = 3 ∧ (j = 10 ∨ j = 11)) → I' k j = I k j := by
          intro I3 g u1 u2 hs1
          have u3 : ∀ k j, ¬ k = 8 → ¬ (k = 3 ∧ (j = 10 ∨ j = 11)) → I3 k j = I k j := fun k j h1 h2 => (u1 k j (by omega)).trans (f2 k j h1 (by omega))
          obtain ⟨I', g0, g1, g2, g3, g4⟩ := yc_watchl15 (be := be) (il := il) (ro := ro) (ca := ca) (mo := mo) (wi := wi) hn hc m (h + 1) I3 (by omega) ((u3 3 7 (by decide) (by decide)).trans i1) ((u3 3 6 (by decide) (by decide)).trans i2) ((u3 3 8 (by decide) (by decide)).trans i3) ((u3 15 2 (by decide) (by decide)).trans i4) (fun i hi => by rw [u3 16 i (by decide) (by omega), u3 4 i (by decide) (by omega), u3 5 i (by decide) (by omega), u3 6 i (by decide) (by omega)]; exact i5 i hi) (by rw [hs1]; exact u2) (by rw [hs1]; exact (u1 3 11 (by decide)).trans f11) (fun i hi => by rw [hs1]; exact (u1 8 i (by omega)).trans (f8 i hi))
          refine ⟨I', ?_, g1, g2, g3, fun k j h1 h2 => (g4 k j h1 h2).trans (u3 k j h1 h2)⟩
          rw [qX0_watch_15_h142_eq, a1]
          rw [hs1] at g0
          exact g0
        have hyes : ∀ g, (if ((0 ≤ last.toInt ∧ last.toInt < (c : Int)) ∧ (0 ≤ (ro h).toInt ∧ (ro h).toInt < (c : Int)) ∧ ¬ last = ro h) ∧ be < yab (wi last.toInt.toNat - wi (ro h).toInt.toNat) then gap ||| ybit h else gap) = g → yn_n c be il ro ca mo wi (h + 1) = (g, rod ||| ybit h, xr_up rd (ro h).toInt.toNat (rd (ro h).toInt.toNat + 1), ro h) := by
          intro g hg
          rw [hs]
          unfold yn_1
          split
          · rw [← hg]
          · rename_i q _
            exact absurd ⟨⟨q1, q2, q3⟩, q4⟩ q
        have g10 : I2 3 10 = gap := (f2 3 10 (by decide) (by decide)).trans i6
        by_cases q5 : (0 ≤ last.toInt ∧ last.toInt < (c : Int)) ∧ (0 ≤ (ro h).toInt ∧ (ro h).toInt < (c : Int)) ∧ ¬ last = ro h
        · rw [if_pos q5, if_neg (by decide), yc_differ (d := d + 2) (show 0 ≤ last.toInt ∧ last.toInt < ((8 : Nat) : Int) by omega) hr8, xb_I1]
          have e6 : yab (I2 6 last.toInt.toNat - I2 6 (ro h).toInt.toNat) = yab (wi last.toInt.toNat - wi (ro h).toInt.toNat) := by
            rw [f2 6 _ (by decide) (by omega), f2 6 _ (by decide) (by omega), (i5 last.toInt.toNat (by omega)).2.2.2, (i5 _ hri).2.2.2]
          have e38 : (I2, J, R).1 3 8 = be := (f2 3 8 (by decide) (by decide)).trans i3
          rw [e6, e38]
          by_cases q6 : yab (wi last.toInt.toNat - wi (ro h).toInt.toNat) ≤ be
          · rw [if_pos q6]
            exact fin I2 gap (fun _ _ _ => rfl) g10 (hyes gap (if_neg (fun z => absurd z.2 (Int32.not_lt.mpr q6))))
          · rw [if_neg q6]
            refine fin (xq_upd I2 3 10 (I2 3 10 ||| (1 : Int32) <<< (Int32.ofNat h &&& 31))) (gap ||| ybit h) (fun k j hk => xq_upd_n hk) ?_ (hyes _ (if_pos ⟨q5, Int32.not_le.mp q6⟩))
            rw [xu_t, g10]
            rfl
        · rw [if_neg q5, if_pos rfl]
          exact fin I2 gap (fun _ _ _ => rfl) g10 (hyes gap (if_neg (fun z => q5 z.1)))
      · rw [if_neg q4]
        exact miss (fun z => q4 z.2)
    · rw [if_pos rfl]
      refine miss (fun z => q1 ⟨z.1.1, ?_, ?_⟩)
      · rw [(i5 (ro h).toInt.toNat (by omega)).2.1]
        exact z.1.2.1
      · rw [i4]
        exact z.1.2.2
theorem yc_watch15 {n : Nat} {I : Nat → Nat → Int32} (hn : n ≤ 8) (hc : c ≤ 8) (i1 : I 3 7 = Int32.ofNat n) (i2 : I 3 6 = Int32.ofNat c) : ∃ I', xq_D xqP (d + 4) 32 [.ref 3, .ref 15] (I, J, R) = some (none, I', J, R) ∧ I' 3 10 = (yn_n c (I 3 8) (I 15 2) (I 16) (I 4) (I 5) (I 6) n).1 ∧ I' 3 11 = (yn_n c (I 3 8) (I 15 2) (I 16) (I 4) (I 5) (I 6) n).2.1 ∧ (∀ i, i < 8 → I' 8 i = (yn_n c (I 3 8) (I 15 2) (I 16) (I 4) (I 5) (I 6) n).2.2.1 i) ∧ ∀ k j, ¬ k = 8 → ¬ (k = 3 ∧ (j = 10 ∨ j = 11)) → I' k j = I k j := by
  obtain ⟨I1, g0, g1, -, g3⟩ := yc_fill8 (d := d + 2) (x := 0) (J := J) (R := R) 8 0 (xq_upd (xq_upd I 3 10 0) 3 11 0) rfl
  have f : ∀ k j, ¬ k = 8 → ¬ (k = 3 ∧ (j = 10 ∨ j = 11)) → I1 k j = I k j := fun k j h1 h2 => by rw [g3 k j h1, xq_upd_n (by omega), xq_upd_n (by omega)]
  obtain ⟨I', k0, k1, k2, k3, k4⟩ := yc_watchl15 (d := d) (J := J) (R := R) (be := I 3 8) (il := I 15 2) (ro := I 16) (ca := I 4) (mo := I 5) (wi := I 6) hn hc n 0 I1 (by omega) ((f 3 7 (by decide) (by decide)).trans i1) ((f 3 6 (by decide) (by decide)).trans i2) (f 3 8 (by decide) (by decide)) (f 15 2 (by decide) (by decide)) (fun i hi => ⟨f 16 i (by decide) (by omega), f 4 i (by decide) (by omega), f 5 i (by decide) (by omega), f 6 i (by decide) (by omega)⟩) (by rw [g3 3 10 (by decide), xq_upd_n (by decide), xu_t]; rfl) (by rw [g3 3 11 (by decide), xu_t]; rfl) (fun i hi => g1 i (Nat.zero_le _) hi)
  refine ⟨I', ?_, k1, k2, k3, fun k j h1 h2 => (k4 k j h1 h2).trans (f k j h1 h2)⟩
  rw [qX0_watch_15_eq, qJ7_fill_53178_8_eq]
  show xq_bV (qJ7_fill_53178_8_h5 (d + 2) 0 (Int32.ofNat 0) (Int32.ofNat 8) (xq_upd (xq_upd I 3 10 0) 3 11 0, J, R)) _ = _
  rw [g0, xb_V1]
  exact k0
end YNB15
