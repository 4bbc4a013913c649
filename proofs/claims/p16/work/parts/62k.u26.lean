/-! law(): HARD of THE ROTA by both rules, in both -/
/-- the rota's HARD together -/
def yhs (Hd : Nat → Nat → Int32) (ro : Nat → Int32) : Nat → Int32
  | 0 => 0
  | h + 1 => yhs Hd ro h + (if ro h = -1 then 0 else Hd (ro h).toInt.toNat h)
theorem yhs_cg {Hd Hd' : Nat → Nat → Int32} {ro ro' : Nat → Int32} : ∀ n, (∀ h, h < n → ro h = ro' h ∧ (¬ ro' h = -1 → Hd (ro' h).toInt.toNat h = Hd' (ro' h).toInt.toNat h)) → yhs Hd ro n = yhs Hd' ro' n
  | 0, _ => rfl
  | h + 1, H => by
    obtain ⟨e1, e2⟩ := H h (by omega)
    rw [yhs, yhs, yhs_cg h (fun i hi => H i (by omega)), e1]
    by_cases g : ro' h = -1
    · rw [if_pos g, if_pos g]
    · rw [if_neg g, if_neg g, e2 g]
theorem yrot_1 {x : Int32} {c : Nat} (h : -1 ≤ x.toInt ∧ x.toInt < (c : Int)) (g : ¬ x = -1) : 0 ≤ x.toInt ∧ x.toInt < (c : Int) := by
  have em : (-1 : Int32).toInt = -1 := by decide
  have : ¬ x.toInt = -1 := fun z => g (xt_eq.mpr (z.trans em.symm))
  omega
theorem yrot_0 {x : Int32} {c : Nat} (g : x = -1) : ¬ (0 ≤ x.toInt ∧ x.toInt < (c : Int)) := by
  have em : (-1 : Int32).toInt = -1 := by decide
  rw [g]
  omega
def yagC (I0 I : Nat → Nat → Int32) : Prop := ∀ k j, ¬ k = 7 → ¬ k = 13 → ¬ k = 86 → I k j = I0 k j
def yagR (I0 I : Nat → Nat → Int32) : Prop := ∀ k j, ¬ k = 104 → ¬ (k = 94 ∧ (j = 13 ∨ j = 14 ∨ j = 15 ∨ j = 16)) → I k j = I0 k j
section YU26
variable {d c n q n0 : Nat} {I I0 : Nat → Nat → Int32} {J : Nat → Nat → Int64} {R : Nat → Nat → Nat} {Hd : Nat → Nat → Int32}
theorem yc_hard83 {r h : Nat} {I : Nat → Nat → Int32} (hr : r < 8) (hh : h < 8) (hq : q ≤ 40) (hI : I 83 4 = Int32.ofNat q) : ∃ v I', xq_D xqP (d + 3) 20 [.ref 3, .ref 83, .ref 15, .int (Int32.ofNat r), .int (Int32.ofNat h)] (I, J, R) = some (some (.int v), I', J, R) ∧ (∀ k j, ¬ k = 7 → ¬ k = 86 → I' k j = I k j) ∧ 0 ≤ v.toInt ∧ v.toInt ≤ 999 ∧ ∀ x, yk_evl (yth (Int32.ofNat h) (I 17 r) (I 6 r) (I 5 r) (Int32.ofNat r) (ym7 (I 15 3)) (ybc (I 4 r))) (yv_c (I 84) q) = [x] → v = ycl x 0 999 := by
  have b1 := xt_nat (n := r) (by omega)
  have b2 : (Int32.ofNat r).toInt.toNat = r := by omega
  generalize hI1 : xq_upd (xq_upd (xq_upd (xq_upd (xq_upd (xq_upd (xq_upd I 7 0 (Int32.ofNat h)) 7 1 (I 17 r)) 7 2 (I 6 r)) 7 3 (I 5 r)) 7 4 (Int32.ofNat r)) 7 5 (ym7 (I 15 3))) 7 6 (ybc (I 4 r)) = I1
  have f1 : ∀ k j, ¬ k = 7 → I1 k j = I k j := fun k j hk => by
    rw [← hI1, xu_k hk, xu_k hk, xu_k hk, xu_k hk, xu_k hk, xu_k hk, xu_k hk]
  have f7 : ∀ i, i < 7 → I1 7 i = yth (Int32.ofNat h) (I 17 r) (I 6 r) (I 5 r) (Int32.ofNat r) (ym7 (I 15 3)) (ybc (I 4 r)) i := by
    intro i hi
    rw [← hI1]
    rcases (show i = 0 ∨ i = 1 ∨ i = 2 ∨ i = 3 ∨ i = 4 ∨ i = 5 ∨ i = 6 by omega) with rfl | rfl | rfl | rfl | rfl | rfl | rfl <;> simp [xq_upd, yth]
  obtain ⟨v, I2, g0, g1, g2⟩ := yv_val83 (d := d) (J := J) (R := R) (I := I1) hq ((f1 83 4 (by decide)).trans hI)
  have ec : I1 84 = I 84 := by
    funext j
    exact f1 84 j (by decide)
  have hb := ycl_r (v := v) (lo := 0) (hi := 999) (by decide)
  refine ⟨ycl v 0 999, I2, ?_, fun k j h1 h2 => (g1 k j h2).trans (f1 k j h1), ?_, ?_, fun x hx => ?_⟩
  · rw [qX0_hardBy_83_15_eq, b2, b1, if_pos (by omega), if_pos (by omega), if_pos (by omega), if_pos (by omega), yc_bc, xb_I1]
    show xq_bI (xq_D xqP (d + 2) 58 [.ref 83, .ref 7] (xq_upd (xq_upd (xq_upd (xq_upd (xq_upd (xq_upd (xq_upd I 7 0 (Int32.ofNat h)) 7 1 (I 17 r)) 7 2 (I 6 r)) 7 3 (I 5 r)) 7 4 (Int32.ofNat r)) 7 5 (ym7 (I 15 3))) 7 6 (ybc (I 4 r)), J, R)) _ = _
    rw [hI1, g0, xb_I1, yc_between, xb_I1]
  · exact hb.1
  · exact hb.2
  · rw [g2 x (by rw [ec, yk_evl_cg f7]; exact hx)]
theorem yc_hor10l (hn : n ≤ 8) (hc : c ≤ 8) (h7 : I0 3 7 = Int32.ofNat n) (h6 : I0 3 6 = Int32.ofNat c) (hro : ∀ h, h < 8 → -1 ≤ (I0 16 h).toInt ∧ (I0 16 h).toInt < (c : Int)) (H : ∀ I, yagC I0 I → ∀ r h, r < c → h < 8 → ∃ I', xq_D xqP (d + 3) 20 [.ref 3, .ref 10, .ref 15, .int (Int32.ofNat r), .int (Int32.ofNat h)] (I, J, R) = some (some (.int (Hd r h)), I', J, R) ∧ yagC I I') : ∀ (m h : Nat) (I : Nat → Nat → Int32), h + m = n → yagC I0 I → ∃ I', qX7_hardOfRota_10_h4 (d + 3) (yhs Hd (I0 16) h) (Int32.ofNat h) (I, J, R) = some (some (.int (yhs Hd (I0 16) n)), I', J, R) ∧ yagC I0 I'
  | 0, h, I, hm, hag => by
    have e : h = n := by omega
    subst e
    have e : (I, J, R).1 3 7 = Int32.ofNat h := (hag 3 7 (by decide) (by decide) (by decide)).trans h7
    refine ⟨I, ?_, hag⟩
    rw [qX7_hardOfRota_10_h4_eq, e, if_pos (Int32.le_refl _)]
  | m + 1, h, I, hm, hag => by
    have e : (I, J, R).1 3 7 = Int32.ofNat n := (hag 3 7 (by decide) (by decide) (by decide)).trans h7
    have er : (I, J, R).1 16 h = I0 16 h := hag 16 h (by decide) (by decide) (by decide)
    have e6 : I 3 6 = Int32.ofNat c := (hag 3 6 (by decide) (by decide) (by decide)).trans h6
    have a1 : Int32.ofNat h + (1 : Int32) = Int32.ofNat (h + 1) := (Int32.ofNat_add h 1).symm
    have b1 := xt_nat (n := h) (by omega)
    have b2 : (Int32.ofNat h).toInt.toNat = h := by omega
    have b8 : 0 ≤ (h : Int) ∧ (h : Int) < ((8 : Nat) : Int) := by omega
    rw [qX7_hardOfRota_10_h4_eq, e, if_neg (fun z => by have := (xr_le (by omega) (by omega)).mp z; omega), b2, b1, if_pos b8, er, yc_has e6 hc, xb_I1]
    by_cases g : I0 16 h = -1
    · rw [if_neg (yrot_0 g), if_pos rfl, qX7_hardOfRota_10_h58_eq, a1, show yhs Hd (I0 16) h + 0 = yhs Hd (I0 16) (h + 1) from by rw [yhs, if_pos g]]
      exact yc_hor10l hn hc h7 h6 hro H m (h + 1) I (by omega) hag
    · obtain ⟨g1, g2⟩ := yrot_1 (hro h (by omega)) g
      have ex := yi_ofNat g1 (by omega)
      obtain ⟨I1, k0, k1⟩ := H I hag (I0 16 h).toInt.toNat h (by omega) (by omega)
      rw [← ex] at k0
      rw [if_pos (show 0 ≤ (I0 16 h).toInt ∧ (I0 16 h).toInt < (c : Int) from ⟨g1, g2⟩), if_neg (by decide), k0, xb_I1, qX7_hardOfRota_10_h58_eq, a1, show yhs Hd (I0 16) h + Hd (I0 16 h).toInt.toNat h = yhs Hd (I0 16) (h + 1) from by rw [yhs, if_neg g]]
      exact yc_hor10l hn hc h7 h6 hro H m (h + 1) I1 (by omega) (fun k j q1 q2 q3 => (k1 k j q1 q2 q3).trans (hag k j q1 q2 q3))
theorem yc_hor83l (hn : n ≤ 8) (hc : c ≤ 8) (h7 : I0 3 7 = Int32.ofNat n) (h6 : I0 3 6 = Int32.ofNat c) (hro : ∀ h, h < 8 → -1 ≤ (I0 16 h).toInt ∧ (I0 16 h).toInt < (c : Int)) (H : ∀ I, yagC I0 I → ∀ r h, r < c → h < 8 → ∃ I', xq_D xqP (d + 3) 20 [.ref 3, .ref 83, .ref 15, .int (Int32.ofNat r), .int (Int32.ofNat h)] (I, J, R) = some (some (.int (Hd r h)), I', J, R) ∧ yagC I I') : ∀ (m h : Nat) (I : Nat → Nat → Int32), h + m = n → yagC I0 I → ∃ I', qX7_hardOfRota_83_h4 (d + 3) (yhs Hd (I0 16) h) (Int32.ofNat h) (I, J, R) = some (some (.int (yhs Hd (I0 16) n)), I', J, R) ∧ yagC I0 I'
  | 0, h, I, hm, hag => by
    have e : h = n := by omega
    subst e
    have e : (I, J, R).1 3 7 = Int32.ofNat h := (hag 3 7 (by decide) (by decide) (by decide)).trans h7
    refine ⟨I, ?_, hag⟩
    rw [qX7_hardOfRota_83_h4_eq, e, if_pos (Int32.le_refl _)]
  | m + 1, h, I, hm, hag => by
    have e : (I, J, R).1 3 7 = Int32.ofNat n := (hag 3 7 (by decide) (by decide) (by decide)).trans h7
    have er : (I, J, R).1 16 h = I0 16 h := hag 16 h (by decide) (by decide) (by decide)
    have e6 : I 3 6 = Int32.ofNat c := (hag 3 6 (by decide) (by decide) (by decide)).trans h6
    have a1 : Int32.ofNat h + (1 : Int32) = Int32.ofNat (h + 1) := (Int32.ofNat_add h 1).symm
    have b1 := xt_nat (n := h) (by omega)
    have b2 : (Int32.ofNat h).toInt.toNat = h := by omega
    have b8 : 0 ≤ (h : Int) ∧ (h : Int) < ((8 : Nat) : Int) := by omega
    rw [qX7_hardOfRota_83_h4_eq, e, if_neg (fun z => by have := (xr_le (by omega) (by omega)).mp z; omega), b2, b1, if_pos b8, er, yc_has e6 hc, xb_I1]
    by_cases g : I0 16 h = -1
    · rw [if_neg (yrot_0 g), if_pos rfl, qX7_hardOfRota_83_h58_eq, a1, show yhs Hd (I0 16) h + 0 = yhs Hd (I0 16) (h + 1) from by rw [yhs, if_pos g]]
      exact yc_hor83l hn hc h7 h6 hro H m (h + 1) I (by omega) hag
    · obtain ⟨g1, g2⟩ := yrot_1 (hro h (by omega)) g
      have ex := yi_ofNat g1 (by omega)
      obtain ⟨I1, k0, k1⟩ := H I hag (I0 16 h).toInt.toNat h (by omega) (by omega)
      rw [← ex] at k0
      rw [if_pos (show 0 ≤ (I0 16 h).toInt ∧ (I0 16 h).toInt < (c : Int) from ⟨g1, g2⟩), if_neg (by decide), k0, xb_I1, qX7_hardOfRota_83_h58_eq, a1, show yhs Hd (I0 16) h + Hd (I0 16 h).toInt.toNat h = yhs Hd (I0 16) (h + 1) from by rw [yhs, if_neg g]]
      exact yc_hor83l hn hc h7 h6 hro H m (h + 1) I1 (by omega) (fun k j q1 q2 q3 => (k1 k j q1 q2 q3).trans (hag k j q1 q2 q3))
theorem yr_horl (hn : n ≤ 8) (hc : c ≤ 8) (h1 : I0 94 1 = Int32.ofNat n) (hro : ∀ h, h < 8 → -1 ≤ (I0 95 h).toInt ∧ (I0 95 h).toInt < (c : Int)) (H : ∀ I R', yagR I0 I → (∀ k j, ¬ (k = 94 ∧ j = 12) → R' k j = R k j) → ∀ r h, r < c → h < 8 → ∃ I' R'', xq_D xqP (d + 172) 225 [.ref 94, .ref 95, .int (Int32.ofNat r), .int (Int32.ofNat h)] (I, J, R') = some (some (.int (Hd r h)), I', J, R'') ∧ yagR I I' ∧ ∀ k j, ¬ (k = 94 ∧ j = 12) → R'' k j = R' k j) : ∀ (m h : Nat) (I : Nat → Nat → Int32) (R' : Nat → Nat → Nat), h + m = n → yagR I0 I → (∀ k j, ¬ (k = 94 ∧ j = 12) → R' k j = R k j) → ∃ I' R'', qX8_hardOfRota_h4 (d + 172) (yhs Hd (I0 95) h) (Int32.ofNat h) (I, J, R') = some (some (.int (yhs Hd (I0 95) n)), I', J, R'') ∧ yagR I0 I' ∧ ∀ k j, ¬ (k = 94 ∧ j = 12) → R'' k j = R k j
  | 0, h, I, R', hm, hag, hRR => by
    have e : h = n := by omega
    subst e
    have e : (I, J, R').1 94 1 = Int32.ofNat h := (hag 94 1 (by decide) (by decide)).trans h1
    refine ⟨I, R', ?_, hag, hRR⟩
    rw [qX8_hardOfRota_h4_eq, e, if_pos (Int32.le_refl _)]
  | m + 1, h, I, R', hm, hag, hRR => by
    have e : (I, J, R').1 94 1 = Int32.ofNat n := (hag 94 1 (by decide) (by decide)).trans h1
    have er : (I, J, R').1 95 h = I0 95 h := hag 95 h (by decide) (by omega)
    have a1 : Int32.ofNat h + (1 : Int32) = Int32.ofNat (h + 1) := (Int32.ofNat_add h 1).symm
    have b1 := xt_nat (n := h) (by omega)
    have b2 : (Int32.ofNat h).toInt.toNat = h := by omega
    have b27 : 0 ≤ (h : Int) ∧ (h : Int) < ((27 : Nat) : Int) := by omega
    rw [qX8_hardOfRota_h4_eq, e, if_neg (fun z => by have := (xr_le (by omega) (by omega)).mp z; omega), b2, b1, if_pos b27, if_pos b27, er]
    by_cases g : I0 95 h = -1
    · rw [if_neg (fun z => z g), qX8_hardOfRota_h42a_eq, a1, show yhs Hd (I0 95) h + 0 = yhs Hd (I0 95) (h + 1) from by rw [yhs, if_pos g]]
      exact yr_horl hn hc h1 hro H m (h + 1) I R' (by omega) hag hRR
    · obtain ⟨g1, g2⟩ := yrot_1 (hro h (by omega)) g
      have ex := yi_ofNat g1 (by omega)
      obtain ⟨I1, R1, k0, k1, k2⟩ := H I R' hag hRR (I0 95 h).toInt.toNat h (by omega) (by omega)
      rw [← ex] at k0
      rw [if_pos g, k0, xb_I1, qX8_hardOfRota_h42_eq, a1, show yhs Hd (I0 95) h + Hd (I0 95 h).toInt.toNat h = yhs Hd (I0 95) (h + 1) from by rw [yhs, if_neg g]]
      exact yr_horl hn hc h1 hro H m (h + 1) I1 R1 (by omega) (fun k j q1 q2 => (k1 k j q1 q2).trans (hag k j q1 q2)) (fun k j q => (k2 k j q).trans (hRR k j q))
end YU26
