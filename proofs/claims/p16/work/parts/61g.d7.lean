/-! HELD ROTAS: who may have which seat, what it costs (the class) -/
theorem yv_c_up' {F G : Nat → Int32} : ∀ {n : Nat}, (∀ j, j < n → G j = F j) → yv_c G n = yv_c F n
  | 0, _ => rfl
  | n + 1, h => by
    show G n :: yv_c G n = F n :: yv_c F n
    rw [h n (by omega), yv_c_up' (fun j hj => h j (by omega))]
theorem yd_il {x : Int32} {r : Nat} {J : Nat → Nat → Int64} {R : Nat → Nat → Nat} {I : Nat → Nat → Int32} {d : Nat} (h : I 15 2 = x) : xq_D xqP (d + 1) 88 [.ref 15, .int (Int32.ofNat r)] (I, J, R) = some (some (.int (if ¬ ((x >>> (Int32.ofNat r &&& 31)) &&& (1 : Int32)) = (1 : Int32) then 0 else 1)), I, J, R) := by
  have h' : (I, J, R).1 15 2 = x := h
  rw [qX5_isIll_eq, h']
  split <;> rfl
/-- whom the hours are for -/
def yd_may (n c : Nat) (wo il : Int32) (ca : Nat → Nat) (r : Nat) : Nat := if r < c ∧ ¬ Int32.ofNat r = wo ∧ ¬ ((il >>> (Int32.ofNat r &&& 31)) &&& (1 : Int32)) = (1 : Int32) then ca r &&& (2 ^ n - 1) else 0
theorem yd_may_lt {n c : Nat} {wo il : Int32} {ca : Nat → Nat} {r : Nat} (hn : n ≤ 8) : yd_may n c wo il ca r < 256 := by
  unfold yd_may
  split
  · exact Nat.lt_of_le_of_lt Nat.and_le_right (yd_full n (by omega)).2
  · omega
section YDG
variable {d n c : Nat} {wo il : Int32} {ca : Nat → Nat} {J : Nat → Nat → Int64} {R : Nat → Nat → Nat}
theorem yd_seats (hc : c ≤ 8) : ∀ (m i : Nat) (I : Nat → Nat → Int32), i + m = c → I 64 13 = Int32.ofNat (2 ^ n - 1) → I 3 6 = Int32.ofNat c → I 15 2 = il → (∀ r, r < c → I 4 r = Int32.ofNat (ca r)) → ∃ I', qX7_openSeats_h16 (d + 1) wo (Int32.ofNat i) (I, J, R) = some (none, I', J, R) ∧ (∀ k j, ¬ k = 65 → ¬ k = 66 → I' k j = I k j) ∧ (∀ r, r < i → I' 65 r = I 65 r ∧ I' 66 r = I 66 r) ∧ (∀ r, i ≤ r → r < c → I' 65 r = Int32.ofNat (yd_may n c wo il ca r) ∧ I' 66 r = I 5 r) ∧ ∀ r, c ≤ r → I' 65 r = I 65 r ∧ I' 66 r = I 66 r
  | 0, i, I, hi, i13, i36, i15, i4 => by
    have hI : (I, J, R).1 3 6 = Int32.ofNat c := i36
    rw [qX7_openSeats_h16_eq, hI, if_pos ((xr_le (by omega) (by omega)).mpr (by omega))]
    exact ⟨I, rfl, fun _ _ _ _ => rfl, fun _ _ => ⟨rfl, rfl⟩, fun r h1 h2 => by omega, fun _ _ => ⟨rfl, rfl⟩⟩
  | m + 1, i, I, hi, i13, i36, i15, i4 => by
    have hI : (I, J, R).1 3 6 = Int32.ofNat c := i36
    have b1 := xt_nat (n := i) (by omega)
    have b2 : (Int32.ofNat i).toInt.toNat = i := by omega
    have a1 : Int32.ofNat i + (1 : Int32) = Int32.ofNat (i + 1) := (Int32.ofNat_add i 1).symm
    have next : ∃ I', qX7_openSeats_h16 (d + 1) wo (Int32.ofNat (i + 1)) (xq_upd (xq_upd I 65 i (Int32.ofNat (yd_may n c wo il ca i))) 66 i (I 5 i), J, R) = some (none, I', J, R) ∧ (∀ k j, ¬ k = 65 → ¬ k = 66 → I' k j = I k j) ∧ (∀ r, r < i → I' 65 r = I 65 r ∧ I' 66 r = I 66 r) ∧ (∀ r, i ≤ r → r < c → I' 65 r = Int32.ofNat (yd_may n c wo il ca r) ∧ I' 66 r = I 5 r) ∧ ∀ r, c ≤ r → I' 65 r = I 65 r ∧ I' 66 r = I 66 r := by
      obtain ⟨I', x1, x2, x3, x4, x5⟩ := yd_seats hc m (i + 1) (xq_upd (xq_upd I 65 i (Int32.ofNat (yd_may n c wo il ca i))) 66 i (I 5 i)) (by omega) (by rw [xu_k (by decide), xu_k (by decide)]; exact i13) (by rw [xu_k (by decide), xu_k (by decide)]; exact i36) (by rw [xu_k (by decide), xu_k (by decide)]; exact i15) (fun r hr => by rw [xu_k (by decide), xu_k (by decide)]; exact i4 r hr)
      refine ⟨I', x1, fun k j h1 h2 => by rw [x2 k j h1 h2, xu_k h2, xu_k h1], fun r hr => ?_, fun r h1 h2 => ?_, fun r hr => ?_⟩
      · obtain ⟨y1, y2⟩ := x3 r (by omega)
        exact ⟨by rw [y1, xu_k (by decide), xu_j (by omega)], by rw [y2, xu_j (by omega), xu_k (by decide)]⟩
      · by_cases e : r = i
        · subst e
          obtain ⟨y1, y2⟩ := x3 r (by omega)
          exact ⟨by rw [y1, xu_k (by decide), xu_t], by rw [y2, xu_t]⟩
        · obtain ⟨y1, y2⟩ := x4 r (by omega) h2
          exact ⟨y1, by rw [y2, xu_k (by decide), xu_k (by decide)]⟩
      · obtain ⟨y1, y2⟩ := x5 r hr
        exact ⟨by rw [y1, xu_k (by decide), xu_j (by omega)], by rw [y2, xu_j (by omega), xu_k (by decide)]⟩
    have h47 : yd_may n c wo il ca i = 0 → qX7_openSeats_h47 (d + 1) wo (Int32.ofNat i) (I, J, R) = qX7_openSeats_h16 (d + 1) wo (Int32.ofNat (i + 1)) (xq_upd (xq_upd I 65 i (Int32.ofNat (yd_may n c wo il ca i))) 66 i (I 5 i), J, R) := by
      intro hm
      have i13' : (I, J, R).1 64 13 = Int32.ofNat (2 ^ n - 1) := i13
      rw [qX7_openSeats_h47_eq, b2, b1, if_pos (by omega), qX4_seat_eq, b2, b1, if_pos (by omega), if_pos (by omega), xb_V1, a1, hm, i13', show (0 : Int32) = Int32.ofNat 0 from rfl, yd_and, Nat.zero_and]
    rw [qX7_openSeats_h16_eq, hI, if_neg (fun z => by have := (xr_le (by omega) (by omega)).mp z; omega)]
    by_cases g1 : Int32.ofNat i = wo
    · rw [if_pos g1, h47 (if_neg (fun z => z.2.1 g1))]
      exact next
    · rw [if_neg g1, yd_il i15, xb_I1]
      by_cases g2 : ((il >>> (Int32.ofNat i &&& 31)) &&& (1 : Int32)) = (1 : Int32)
      · have e9 : (if ¬ ((il >>> (Int32.ofNat i &&& 31)) &&& (1 : Int32)) = (1 : Int32) then (0 : Int32) else 1) = 1 := if_neg (fun z => z g2)
        rw [e9, if_pos (by decide), h47 (if_neg (fun z => z.2.2 g2))]
        exact next
      · have hm : yd_may n c wo il ca i = ca i &&& (2 ^ n - 1) := if_pos ⟨by omega, g1, g2⟩
        have i13' : (I, J, R).1 64 13 = Int32.ofNat (2 ^ n - 1) := i13
        have i4' : (I, J, R).1 4 i = Int32.ofNat (ca i) := i4 i (by omega)
        have e9 : (if ¬ ((il >>> (Int32.ofNat i &&& 31)) &&& (1 : Int32)) = (1 : Int32) then (0 : Int32) else 1) = 0 := if_pos g2
        rw [e9, if_neg (fun z => z rfl), b2, b1, if_pos (by omega), if_pos (by omega), qX4_seat_eq, b2, b1, if_pos (by omega), if_pos (by omega), xb_V1, a1, i13', i4', yd_and]
        rw [hm] at next
        exact next
end YDG
/-- a price and a name below it -/
theorem yd_p24 : ∀ v : Nat, v < 1000 → ((Int32.ofNat v).toInt64 <<< (((24 : Int32)).toInt64 &&& 63)).toInt = (v : Int) * 16777216 := by decide +kernel
theorem yd_pnm : ∀ r : Nat, r < 8 → ∀ h : Nat, h < 8 → ((Int32.ofNat r).toInt64 <<< ((((3 : Int32) * ((7 : Int32) - Int32.ofNat h))).toInt64 &&& 63)).toInt = (r : Int) * 8 ^ (7 - h) := by decide +kernel
theorem yd_8h : ∀ r : Nat, r < 8 → ∀ h : Nat, h < 8 → (0 : Int) ≤ (r : Int) * 8 ^ (7 - h) ∧ (r : Int) * 8 ^ (7 - h) ≤ 14680064 := by decide +kernel
def yd_f (n c : Nat) (Hd : Nat → Nat → Int32) (r h : Nat) : Int := if r < c ∧ h < n then (Hd r h).toInt * 16777216 + (r : Int) * 8 ^ (7 - h) else 0
section YDH
variable {d n c q : Nat} {R : Nat → Nat → Nat} {Hd : Nat → Nat → Int32} {C : List Int32} {ti wi mo ca : Nat → Int32} {ni : Int32}
/-- what HARD is asked of -/
def yd_in (I : Nat → Nat → Int32) (n c q : Nat) (C : List Int32) (ti wi mo ca : Nat → Int32) (ni : Int32) : Prop := I 3 7 = Int32.ofNat n ∧ I 3 6 = Int32.ofNat c ∧ I 10 4 = Int32.ofNat q ∧ yv_c (I 11) q = C ∧ I 15 3 = ni ∧ ∀ r, r < 8 → I 17 r = ti r ∧ I 6 r = wi r ∧ I 5 r = mo r ∧ I 4 r = ca r
theorem yd_in_fr {I I' : Nat → Nat → Int32} (h : ∀ k j, ¬ k = 7 → ¬ k = 13 → ¬ (64 ≤ k ∧ k ≤ 68) → I' k j = I k j) (hi : yd_in I n c q C ti wi mo ca ni) : yd_in I' n c q C ti wi mo ca ni := by
  obtain ⟨h1, h2, h3, h4, h5, h6⟩ := hi
  refine ⟨(h _ _ (by decide) (by decide) (by decide)).trans h1, (h _ _ (by decide) (by decide) (by decide)).trans h2, (h _ _ (by decide) (by decide) (by decide)).trans h3, ?_, (h _ _ (by decide) (by decide) (by decide)).trans h5, fun r hr => ?_⟩
  · rw [yv_c_up' (F := I 11) (fun j _ => h 11 j (by decide) (by decide) (by decide))]
    exact h4
  · obtain ⟨g1, g2, g3, g4⟩ := h6 r hr
    exact ⟨(h _ _ (by decide) (by decide) (by decide)).trans g1, (h _ _ (by decide) (by decide) (by decide)).trans g2, (h _ _ (by decide) (by decide) (by decide)).trans g3, (h _ _ (by decide) (by decide) (by decide)).trans g4⟩
theorem yd_hardNow {I : Nat → Nat → Int32} {J : Nat → Nat → Int64} {r h : Nat} (hq : q ≤ 40) (hc : c ≤ 8) (hR : R 3 9 = 10) (hi : yd_in I n c q C ti wi mo ca ni) (hHd : yHd C ti wi mo ca ni c Hd) (hr : r < c) (hh : h < 8) : ∃ I', xq_D xqP (d + 4) 129 [.ref 0, .int (Int32.ofNat r), .int (Int32.ofNat h)] (I, J, R) = some (some (.int (Hd r h)), I', J, R) ∧ (∀ k j, ¬ k = 7 → ¬ k = 13 → I' k j = I k j) ∧ 0 ≤ (Hd r h).toInt ∧ (Hd r h).toInt ≤ 999 := by
  have hR' : (I, J, R).2.2 3 9 = 10 := hR
  obtain ⟨h1, h2, h3, h4, h5, h6⟩ := hi
  obtain ⟨g1, g2, g3, g4⟩ := h6 r (by omega)
  obtain ⟨v, I', x1, x2, x3, x4, x5⟩ := yc_hard15 (d := d) (J := J) (R := R) (I := I) (r := r) (h := h) (by omega) hh hq h3
  obtain ⟨x, y1, y2⟩ := hHd r h hr hh
  have hv : v = Hd r h := by
    rw [y2]
    refine x5 x ?_
    rw [g1, g2, g3, g4, h4, h5]
    exact y1
  rw [qX7_hardNow_eq, hR', if_neg (by decide), if_pos rfl, x1, xb_I1, hv]
  rw [hv] at x3 x4
  exact ⟨I', rfl, x2, x3, x4⟩
theorem yd_price {I : Nat → Nat → Int32} {J : Nat → Nat → Int64} {r h : Nat} {v : Int32} (hr : r < 8) (hh : h < 8) (h0 : 0 ≤ v.toInt) (h1 : v.toInt ≤ 999) : ∃ x : Int64, xq_D xqP (d + 2) 76 [.ref 64, .int (Int32.ofNat r), .int (Int32.ofNat h), .int v] (I, J, R) = some (none, I, xq_upd J 69 (8 * r + h) x, R) ∧ x.toInt = v.toInt * 16777216 + (r : Int) * 8 ^ (7 - h) := by
  obtain ⟨n, rfl, hn⟩ := ynat h0 h1
  have e1 := yd_ix r hr h hh
  have e2 : (Int32.ofNat r * 8 + Int32.ofNat h).toInt.toNat = 8 * r + h := by omega
  have n1 := xt_nat (n := n) (by omega)
  have p1 := yd_p24 n (by omega)
  have p2 := yd_pnm r hr h hh
  have p3 := yd_8h r hr h hh
  rw [qX4_price_eq, qX4_charge_eq, e2, e1, if_pos (by omega), xb_V1]
  refine ⟨_, rfl, ?_⟩
  rw [yl_add (by rw [p1, p2]; omega) (by rw [p1, p2]; omega), p1, p2, n1]
end YDH
