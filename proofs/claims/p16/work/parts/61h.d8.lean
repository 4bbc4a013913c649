/-! HELD ROTAS: the easiest (the class) -/
section YDI
variable {d n c q : Nat} {R : Nat → Nat → Nat} {Hd : Nat → Nat → Int32} {C : List Int32} {ti wi mo ca : Nat → Int32} {ni : Int32}
/-- what is priced so far -/
def yd_pd (n c : Nat) (Hd : Nat → Nat → Int32) (J J' : Nat → Nat → Int64) (P : Nat → Nat → Prop) : Prop := (∀ k j, ¬ k = 69 → J' k j = J k j) ∧ ∀ r, r < 8 → ∀ h, h < 8 → (P r h → (J' 69 (8 * r + h)).toInt = yd_f n c Hd r h) ∧ (¬ P r h → J' 69 (8 * r + h) = J 69 (8 * r + h))
theorem yd_ixi {r h r' h' : Nat} (h1 : h < 8) (h2 : h' < 8) (e : 8 * r + h = 8 * r' + h') : r = r' ∧ h = h' := by omega
theorem yd_ph (hn : n ≤ 8) (hq : q ≤ 40) (hc : c ≤ 8) (hR : R 3 9 = 10) (hHd : yHd C ti wi mo ca ni c Hd) {r : Nat} (hr : r < c) : ∀ (m h : Nat) (I : Nat → Nat → Int32) (J : Nat → Nat → Int64), h + m = n → yd_in I n c q C ti wi mo ca ni → ∃ I' J', qX7_priceByHard_h15 (d + 5) (Int32.ofNat r) (Int32.ofNat h) (I, J, R) = qX7_priceByHard_h2 (d + 5) (Int32.ofNat (r + 1)) (I', J', R) ∧ (∀ k j, ¬ k = 7 → ¬ k = 13 → I' k j = I k j) ∧ yd_pd n c Hd J J' (fun r' h' => r' = r ∧ h ≤ h' ∧ h' < n)
  | 0, h, I, J, hm, hi => by
    have hI : (I, J, R).1 3 7 = Int32.ofNat n := hi.1
    have a1 : Int32.ofNat r + (1 : Int32) = Int32.ofNat (r + 1) := (Int32.ofNat_add r 1).symm
    rw [qX7_priceByHard_h15_eq, hI, if_pos ((xr_le (by omega) (by omega)).mpr (by omega)), a1]
    exact ⟨I, J, rfl, fun _ _ _ _ => rfl, fun _ _ _ => rfl, fun r' _ h' _ => ⟨fun z => by omega, fun _ => rfl⟩⟩
  | m + 1, h, I, J, hm, hi => by
    have hI : (I, J, R).1 3 7 = Int32.ofNat n := hi.1
    have a1 : Int32.ofNat h + (1 : Int32) = Int32.ofNat (h + 1) := (Int32.ofNat_add h 1).symm
    obtain ⟨I1, x1, x2, x3, x4⟩ := yd_hardNow (d := d + 1) (J := J) hq hc hR hi hHd hr (show h < 8 by omega)
    obtain ⟨x, y1, y2⟩ := yd_price (d := d + 3) (I := I1) (J := J) (R := R) (r := r) (h := h) (by omega) (by omega) x3 x4
    have hi1 : yd_in I1 n c q C ti wi mo ca ni := yd_in_fr (fun k j h1 h2 _ => x2 k j h1 h2) hi
    obtain ⟨I', J', z1, z2, z3, z4⟩ := yd_ph hn hq hc hR hHd hr m (h + 1) I1 (xq_upd J 69 (8 * r + h) x) (by omega) hi1
    refine ⟨I', J', ?_, fun k j h1 h2 => (z2 k j h1 h2).trans (x2 k j h1 h2), fun k j hk => (z3 k j hk).trans (xu_k hk), fun r' hr' h' hh' => ?_⟩
    · rw [qX7_priceByHard_h15_eq, hI, if_neg (fun z => by have := (xr_le (by omega) (by omega)).mp z; omega), x1, xb_I1, y1, xb_V1, a1]
      exact z1
    · obtain ⟨g1, g2⟩ := z4 r' hr' h' hh'
      by_cases e : r' = r ∧ h' = h
      · obtain ⟨rfl, rfl⟩ := e
        refine ⟨fun _ => ?_, fun z => absurd ⟨rfl, Nat.le_refl _, by omega⟩ z⟩
        rw [g2 (fun z => by omega), xu_t, y2]
        exact (if_pos ⟨hr, by omega⟩).symm
      · refine ⟨fun z => g1 ⟨z.1, by omega, z.2.2⟩, fun z => ?_⟩
        rw [g2 (fun z2 => z ⟨z2.1, by omega, z2.2.2⟩)]
        exact xu_j (fun z2 => e (yd_ixi hh' (by omega) z2))
theorem yd_pr (hn : n ≤ 8) (hq : q ≤ 40) (hc : c ≤ 8) (hR : R 3 9 = 10) (hHd : yHd C ti wi mo ca ni c Hd) : ∀ (m r : Nat) (I : Nat → Nat → Int32) (J : Nat → Nat → Int64), r + m = c → yd_in I n c q C ti wi mo ca ni → ∃ I' J', qX7_priceByHard_h2 (d + 5) (Int32.ofNat r) (I, J, R) = some (none, I', J', R) ∧ (∀ k j, ¬ k = 7 → ¬ k = 13 → I' k j = I k j) ∧ yd_pd n c Hd J J' (fun r' h' => r ≤ r' ∧ r' < c ∧ h' < n)
  | 0, r, I, J, hm, hi => by
    have hI : (I, J, R).1 3 6 = Int32.ofNat c := hi.2.1
    rw [qX7_priceByHard_h2_eq, hI, if_pos ((xr_le (by omega) (by omega)).mpr (by omega))]
    exact ⟨I, J, rfl, fun _ _ _ _ => rfl, fun _ _ _ => rfl, fun r' _ h' _ => ⟨fun z => by omega, fun _ => rfl⟩⟩
  | m + 1, r, I, J, hm, hi => by
    have hI : (I, J, R).1 3 6 = Int32.ofNat c := hi.2.1
    obtain ⟨I1, J1, x1, x2, x3, x4⟩ := yd_ph (d := d) (J := J) hn hq hc hR hHd (show r < c by omega) n 0 I (by omega) hi
    have hi1 : yd_in I1 n c q C ti wi mo ca ni := yd_in_fr (fun k j h1 h2 _ => x2 k j h1 h2) hi
    obtain ⟨I', J', z1, z2, z3, z4⟩ := yd_pr hn hq hc hR hHd m (r + 1) I1 J1 (by omega) hi1
    refine ⟨I', J', ?_, fun k j h1 h2 => (z2 k j h1 h2).trans (x2 k j h1 h2), fun k j hk => (z3 k j hk).trans (x3 k j hk), fun r' hr' h' hh' => ?_⟩
    · rw [qX7_priceByHard_h2_eq, hI, if_neg (fun z => by have := (xr_le (by omega) (by omega)).mp z; omega), show (0 : Int32) = Int32.ofNat 0 from rfl, x1]
      exact z1
    · obtain ⟨g1, g2⟩ := z4 r' hr' h' hh'
      obtain ⟨k1, k2⟩ := x4 r' hr' h' hh'
      by_cases e : r' = r ∧ h' < n
      · refine ⟨fun _ => ?_, fun z => absurd ⟨by omega, by omega, e.2⟩ z⟩
        rw [g2 (fun z => by omega)]
        exact k1 ⟨e.1, Nat.zero_le _, e.2⟩
      · refine ⟨fun z => g1 ⟨by omega, z.2.1, z.2.2⟩, fun z => ?_⟩
        rw [g2 (fun z2 => z ⟨by omega, z2.2.1, z2.2.2⟩)]
        exact k2 (fun z2 => e ⟨z2.1, z2.2.2⟩)
/-- the riders' RIDES at most -/
def yd_cap (c : Nat) (mo : Nat → Int32) (r : Nat) : Int := if r < c then (mo r).toInt else 0
theorem yd_f_r {n c : Nat} {Hd : Nat → Nat → Int32} (hb : ∀ r h, r < c → h < 8 → 0 ≤ (Hd r h).toInt ∧ (Hd r h).toInt ≤ 999) {r h : Nat} (hr : r < 8) (hh : h < 8) : 0 ≤ yd_f n c Hd r h ∧ yd_f n c Hd r h ≤ 68719476736 := by
  unfold yd_f
  have := yd_8h r hr h hh
  split
  · rename_i z
    have := hb r h z.1 hh
    omega
  · omega
theorem yHd_r {C : List Int32} (hHd : yHd C ti wi mo ca ni c Hd) : ∀ r h, r < c → h < 8 → 0 ≤ (Hd r h).toInt ∧ (Hd r h).toInt ≤ 999 := fun r h hr hh => by
  obtain ⟨x, -, e⟩ := hHd r h hr hh
  rw [e]
  have := ycl_r (v := x) (lo := 0) (hi := 999) (by decide)
  exact this
/-- the easiest rota, one rider not being there: the least of all assignments -/
theorem yd_easiest {I : Nat → Nat → Int32} {J : Nat → Nat → Int64} {wo il : Int32} {cn : Nat → Nat} (hn : n ≤ 8) (hq : q ≤ 40) (hc : c ≤ 8) (hR : R 3 9 = 10) (hi : yd_in I n c q C ti wi mo ca ni) (hHd : yHd C ti wi mo ca ni c Hd) (hil : I 15 2 = il) (hcn : ∀ r, r < c → ca r = Int32.ofNat (cn r)) (hmo : ∀ r, r < c → 0 ≤ (mo r).toInt) : ∃ v I' J', xq_D xqP (d + 7) 114 [.ref 0, .int wo] (I, J, R) = some (some (.long v), I', J', R) ∧ (∀ k j, ¬ k = 7 → ¬ k = 13 → ¬ (64 ≤ k ∧ k ≤ 68) → I' k j = I k j) ∧ (0 ≤ v.toInt ∧ v.toInt ≤ yd_NO) ∧ (v.toInt < yd_NO → ∃ o, yd_Pt (yd_okc (yd_may n c wo il cn) (yd_cap c mo) (yd_NO - 1) (fun _ => 0) (yd_f n c Hd)) 8 (2 ^ n - 1) o ∧ v.toInt = yd_Ws (yd_wc (fun _ => 0) (yd_f n c Hd)) 8 o) ∧ ∀ o, yd_Pt (yd_okc (yd_may n c wo il cn) (yd_cap c mo) (yd_NO - 1) (fun _ => 0) (yd_f n c Hd)) 8 (2 ^ n - 1) o → v.toInt ≤ yd_Ws (yd_wc (fun _ => 0) (yd_f n c Hd)) 8 o := by
  have hfull := (yd_full n (by omega)).2
  have hNO : yd_NO = 1152921504606846976 := rfl
  have hI7 : (I, J, R).1 3 7 = Int32.ofNat n := hi.1
  obtain ⟨I1, J1, x1, x2, x3, x4, x5, x6, x7⟩ := yd_open (d := d + 3) (R := R) (I := I) (J := J) hn
  have hi1 : yd_in I1 n c q C ti wi mo ca ni := yd_in_fr (fun k j _ _ h3 => x2 k j h3) hi
  obtain ⟨I2, y1, y2, y3, y4, y5⟩ := yd_seats (d := d + 4) (wo := wo) (il := il) (ca := cn) (J := J1) (R := R) hc c 0 I1 (by omega) x3 hi1.2.1 ((x2 15 2 (by decide)).trans hil) (fun r hr => by rw [(hi1.2.2.2.2.2 r (by omega)).2.2.2]; exact hcn r hr)
  have hi2 : yd_in I2 n c q C ti wi mo ca ni := yd_in_fr (fun k j _ _ h3 => y2 k j (by omega) (by omega)) hi1
  obtain ⟨I3, J3, z1, z2, z3, z4⟩ := yd_pr (d := d) (J := J1) hn hq hc hR hHd c 0 I2 (by omega) hi2
  have g13 : I3 64 13 = Int32.ofNat (2 ^ n - 1) := by rw [z2 _ _ (by decide) (by decide), y2 _ _ (by decide) (by decide)]; exact x3
  have hmay : ∀ r, r < 8 → I3 65 r = Int32.ofNat (yd_may n c wo il cn r) ∧ yd_may n c wo il cn r < 256 := fun r hr => by
    refine ⟨?_, yd_may_lt hn⟩
    rw [z2 _ _ (by decide) (by decide)]
    by_cases h : r < c
    · exact (y4 r (Nat.zero_le _) h).1
    · rw [(y5 r (by omega)).1, (x4 r hr).1]
      unfold yd_may
      rw [if_neg (fun z => h z.1)]
      rfl
  have hcap : ∀ r, r < 8 → (I3 66 r).toInt = yd_cap c mo r ∧ 0 ≤ yd_cap c mo r := fun r hr => by
    unfold yd_cap
    rw [z2 _ _ (by decide) (by decide)]
    by_cases h : r < c
    · rw [(y4 r (Nat.zero_le _) h).2, (hi1.2.2.2.2.2 r hr).2.2.1, if_pos h]
      exact ⟨rfl, hmo r h⟩
    · rw [(y5 r (by omega)).2, (x4 r hr).2.1, if_neg h]
      exact ⟨by decide, Int.le_refl _⟩
  have hfr := yHd_r hHd
  have h69 : ∀ r, r < 8 → ∀ h, h < 8 → (J3 69 (8 * r + h)).toInt = yd_f n c Hd r h := fun r hr h hh => by
    obtain ⟨k1, k2⟩ := z4 r hr h hh
    by_cases e : r < c ∧ h < n
    · exact k1 ⟨Nat.zero_le _, e.1, e.2⟩
    · rw [k2 (fun z => e ⟨z.2.1, z.2.2⟩), x6 _ (by omega)]
      unfold yd_f
      rw [if_neg e]
      decide
  obtain ⟨v, J4, w1, w2, w3, w4⟩ := yd_least (d := d + 1) (R := R) (I := I3) (J := J3) (may := yd_may n c wo il cn) (cap := yd_cap c mo) (lim := yd_NO - 1) (fl := fun _ => 0) (f := yd_f n c Hd) hfull g13 (fun r hr => by rw [z2 _ _ (by decide) (by decide), y2 _ _ (by decide) (by decide)]; exact (x4 r hr).2.2.2) (fun r hr => by rw [z2 _ _ (by decide) (by decide), y2 _ _ (by decide) (by decide)]; exact (x4 r hr).2.2.1) hmay hcap ⟨by omega, by omega⟩ (fun r hr => ⟨Int.le_refl _, by omega⟩) (fun r hr h hh => yd_f_r hfr hr hh) h69 (fun r hr => by rw [z3 _ _ (by decide), x7 r hr]; decide) (by rw [z3 _ _ (by decide)]; exact x5)
  obtain ⟨u1, u2, u3⟩ := w3 (2 ^ n - 1) (Nat.le_refl _)
  simp only [← w4] at u1 u2 u3
  refine ⟨v, I3, J4, ?_, fun k j h1 h2 h3 => by rw [z2 k j h1 h2, y2 k j (by omega) (by omega), x2 k j h3], u1, u2, u3⟩
  rw [qX7_easiestWithout_eq, qX7_openSeats_eq, hI7, x1, xb_V1, show (0 : Int32) = Int32.ofNat 0 from rfl, y1, xb_V1, qX7_priceByHard_eq, show (0 : Int32) = Int32.ofNat 0 from rfl, z1, xb_V1, w1, xb_J1]
end YDI
