/-! HELD ROTAS: who may have which hour, what it costs (the reference) -/
def yd_mayR (n : Nat) (wo : Int32) (il : Nat → Int32) (ca : Nat → Nat) (r : Nat) : Nat := if ¬ il r = 1 ∧ ¬ Int32.ofNat r = wo then ca r &&& (2 ^ n - 1) else 0
theorem yd_mayR_lt {n : Nat} {wo : Int32} {il : Nat → Int32} {ca : Nat → Nat} {r : Nat} (hn : n ≤ 8) : yd_mayR n wo il ca r < 256 := by
  unfold yd_mayR
  split
  · exact Nat.lt_of_le_of_lt Nat.and_le_right (yd_full n (by omega)).2
  · omega
def yd_inR (I : Nat → Nat → Int32) (R : Nat → Nat → Nat) (n c n0 : Nat) (T : Nat → Int32) (ti wi mo ca il : Nat → Int32) (ni : Int32) : Prop := (I 94 1 = Int32.ofNat n ∧ I 94 3 = Int32.ofNat c ∧ I 94 20 = Int32.ofNat n0 ∧ I 94 21 = 0 ∧ R 94 18 = 102) ∧ (∀ i, i < 40 → -128 ≤ (I 102 i).toInt ∧ (I 102 i).toInt ≤ 127) ∧ yk_t I 102 n0 40 = T ∧ I 95 24 = ni ∧ ∀ r, r < 8 → I 95 (8 + r) = ti r ∧ I 97 r = wi r ∧ I 96 r = mo r ∧ I 98 r = ca r ∧ I 95 (16 + r) = il r
def yd_frR (I I' : Nat → Nat → Int32) : Prop := ∀ k j, ¬ k = 104 → ¬ (111 ≤ k ∧ k ≤ 118) → ¬ (k = 94 ∧ (j = 13 ∨ j = 14 ∨ j = 15 ∨ j = 16)) → I' k j = I k j
theorem yd_inR_fr {I I' : Nat → Nat → Int32} {R R' : Nat → Nat → Nat} {n c n0 : Nat} {T : Nat → Int32} {ti wi mo ca il : Nat → Int32} {ni : Int32} (h : yd_frR I I') (hR : ∀ k j, ¬ (k = 94 ∧ j = 12) → R' k j = R k j) (hi : yd_inR I R n c n0 T ti wi mo ca il ni) : yd_inR I' R' n c n0 T ti wi mo ca il ni := by
  obtain ⟨⟨h1, h2, h3, h4, h5⟩, h6, h7, h8, h9⟩ := hi
  have g : ∀ i, I' 102 i = I 102 i := fun i => h 102 i (by decide) (by decide) (by omega)
  refine ⟨⟨(h _ _ (by decide) (by decide) (by decide)).trans h1, (h _ _ (by decide) (by decide) (by decide)).trans h2, (h _ _ (by decide) (by decide) (by decide)).trans h3, (h _ _ (by decide) (by decide) (by decide)).trans h4, (hR _ _ (by decide)).trans h5⟩, fun i hi => by rw [g]; exact h6 i hi, ?_, (h _ _ (by decide) (by decide) (by decide)).trans h8, fun r hr => ?_⟩
  · rw [← h7]
    funext p
    unfold yk_t
    rw [g]
  · obtain ⟨g1, g2, g3, g4, g5⟩ := h9 r hr
    exact ⟨(h _ _ (by decide) (by decide) (by omega)).trans g1, (h _ _ (by decide) (by decide) (by omega)).trans g2, (h _ _ (by decide) (by decide) (by omega)).trans g3, (h _ _ (by decide) (by decide) (by omega)).trans g4, (h _ _ (by decide) (by decide) (by omega)).trans g5⟩
section YDJ
variable {d n c n0 : Nat} {J : Nat → Nat → Int64} {T : Nat → Int32} {ti wi mo ca il : Nat → Int32} {ni : Int32} {Hd : Nat → Nat → Int32}
theorem yd_hardR {I : Nat → Nat → Int32} {R : Nat → Nat → Nat} {r h : Nat} (hn0 : n0 ≤ 40) (hi : yd_inR I R n c n0 T ti wi mo ca il ni) (hHd : yr_Hd T n0 ti wi mo ca ni Hd) (hr : r < 8) (hh : h < 8) : ∃ I' R', xq_D xqP (d + 172) 225 [.ref 94, .ref 95, .int (Int32.ofNat r), .int (Int32.ofNat h)] (I, J, R) = some (some (.int (Hd r h)), I', J, R') ∧ yd_frR I I' ∧ (∀ k, ¬ k = 104 → ¬ k = 94 → I' k = I k) ∧ (∀ k j, ¬ (k = 94 ∧ j = 12) → R' k j = R k j) ∧ 0 ≤ (Hd r h).toInt ∧ (Hd r h).toInt ≤ 999 := by
  obtain ⟨⟨h1, h2, h3, h4, h5⟩, h6, h7, h8, h9⟩ := hi
  obtain ⟨g1, g2, g3, g4, g5⟩ := h9 r hr
  obtain ⟨v, I', R', x1, x2, x3, x4, x5, x6, x7⟩ := yr_hard95 (d := d) (J := J) hr hh hn0 h3 h5 h6 h4
  obtain ⟨k1, k2⟩ := hHd r h hr hh
  have hv : v = Hd r h := by
    by_cases z : n0 = 0
    · rw [x6 z, k1 z, g1, g2]
    · obtain ⟨x, y1, y2⟩ := k2 (by omega)
      rw [y2]
      refine x7 (by omega) x ?_
      rw [g1, g2, g3, g4, h7, h8]
      exact y1
  rw [hv] at x1 x4 x5
  exact ⟨I', R', x1, fun k j a1 _ a3 => x2 k j a1 a3, fun k a1 a2 => funext fun j => x2 k j a1 (by omega), x3, x4, x5⟩
theorem yd_8h8 : ∀ r : Nat, r < 8 → ∀ h : Nat, h < 8 → (((8 : Int32) * Int32.ofNat r) + Int32.ofNat h).toInt = ((8 * r + h : Nat) : Int) := by decide +kernel
theorem yd_16 : ∀ r : Nat, r < 8 → ((16 : Int32) + Int32.ofNat r).toInt = ((16 + r : Nat) : Int) := by decide +kernel
/-- a rider's eight prices -/
theorem yd_lay8 (hn0 : n0 ≤ 40) (hHd : yr_Hd T n0 ti wi mo ca ni Hd) {wo : Int32} {r : Nat} (hr : r < 8) : ∀ (m h : Nat) (I : Nat → Nat → Int32) (R : Nat → Nat → Nat), h + m = 8 → yd_inR I R n c n0 T ti wi mo ca il ni → ∃ I' R', qX8_layMay_h58 (d + 172) wo (Int32.ofNat r) (Int32.ofNat h) (I, J, R) = qX8_layMay_h2 (d + 172) wo (Int32.ofNat (r + 1)) (I', J, R') ∧ yd_frR I I' ∧ (∀ k, ¬ k = 104 → ¬ k = 94 → ¬ k = 115 → I' k = I k) ∧ (∀ k j, ¬ (k = 94 ∧ j = 12) → R' k j = R k j) ∧ (∀ h', h ≤ h' → h' < 8 → I' 115 (8 * r + h') = Hd r h') ∧ ∀ j, ¬ (8 * r + h ≤ j ∧ j < 8 * r + 8) → I' 115 j = I 115 j
  | 0, h, I, R, hm, hi => by
    have a1 : Int32.ofNat r + (1 : Int32) = Int32.ofNat (r + 1) := (Int32.ofNat_add r 1).symm
    rw [qX8_layMay_h58_eq, if_pos (show (8 : Int32) ≤ Int32.ofNat h from (xr_le (a := 8) (by omega) (by omega)).mpr (by omega)), a1]
    exact ⟨I, R, rfl, fun _ _ _ _ _ => rfl, fun _ _ _ _ => rfl, fun _ _ _ => rfl, fun h' h1 h2 => by omega, fun _ _ => rfl⟩
  | m + 1, h, I, R, hm, hi => by
    have a1 : Int32.ofNat h + (1 : Int32) = Int32.ofNat (h + 1) := (Int32.ofNat_add h 1).symm
    have e1 := yd_8h8 r hr h (by omega)
    have e2 : (((8 : Int32) * Int32.ofNat r) + Int32.ofNat h).toInt.toNat = 8 * r + h := by omega
    obtain ⟨I1, R1, x1, x2, x3, x4, x5, x6⟩ := yd_hardR (d := d) (J := J) hn0 hi hHd hr (show h < 8 by omega)
    have hi1 : yd_inR (xq_upd I1 115 (8 * r + h) (Hd r h)) R1 n c n0 T ti wi mo ca il ni := yd_inR_fr (fun k j b1 b2 b3 => by rw [xq_upd_n (by omega)]; exact x2 k j b1 b2 b3) x4 hi
    obtain ⟨I', R', y1, y2, y3, y4, y5, y6⟩ := yd_lay8 hn0 hHd hr m (h + 1) (xq_upd I1 115 (8 * r + h) (Hd r h)) R1 (by omega) hi1
    refine ⟨I', R', ?_, fun k j b1 b2 b3 => ?_, fun k b1 b2 b3 => ?_, fun k j hk => (y4 k j hk).trans (x4 k j hk), fun h' h1 h2 => ?_, fun j hj => ?_⟩
    · rw [qX8_layMay_h58_eq, if_neg (fun z => by have := (xr_le (a := 8) (by omega) (by omega)).mp z; omega), x1, xb_I1, e2, e1, if_pos (by omega), a1]
      exact y1
    · rw [y2 k j b1 b2 b3, xq_upd_n (by omega)]
      exact x2 k j b1 b2 b3
    · rw [y3 k b1 b2 b3, ← x3 k b1 b2]
      funext j
      exact xu_k b3
    · by_cases e : h' = h
      · subst e
        rw [y6 _ (by omega), xu_t]
      · exact y5 h' (by omega) h2
    · rw [y6 j (by omega), xu_j (by omega), x3 115 (by decide) (by decide)]
/-- layMay() -/
theorem yd_layl (hn : n ≤ 8) (hc : c ≤ 8) (hn0 : n0 ≤ 40) (hHd : yr_Hd T n0 ti wi mo ca ni Hd) {wo : Int32} {cn : Nat → Nat} (hcn : ∀ r, r < c → ca r = Int32.ofNat (cn r)) : ∀ (m r : Nat) (I : Nat → Nat → Int32) (R : Nat → Nat → Nat), r + m = c → yd_inR I R n c n0 T ti wi mo ca il ni → ∃ I' R', qX8_layMay_h2 (d + 172) wo (Int32.ofNat r) (I, J, R) = some (none, I', J, R') ∧ yd_frR I I' ∧ (∀ k j, ¬ (k = 94 ∧ j = 12) → R' k j = R k j) ∧ (∀ r', r ≤ r' → r' < c → I' 111 r' = Int32.ofNat (yd_mayR n wo il cn r') ∧ I' 112 r' = 0 ∧ ∀ h, h < 8 → I' 115 (8 * r' + h) = Hd r' h) ∧ ∀ r', r' < r → I' 111 r' = I 111 r' ∧ I' 112 r' = I 112 r' ∧ ∀ h, h < 8 → I' 115 (8 * r' + h) = I 115 (8 * r' + h)
  | 0, r, I, R, hm, hi => by
    have hI : (I, J, R).1 94 3 = Int32.ofNat c := hi.1.2.1
    rw [qX8_layMay_h2_eq, hI, if_pos ((xr_le (by omega) (by omega)).mpr (by omega))]
    exact ⟨I, R, rfl, fun _ _ _ _ _ => rfl, fun _ _ _ => rfl, fun r' h1 h2 => by omega, fun _ _ => ⟨rfl, rfl, fun _ _ => rfl⟩⟩
  | m + 1, r, I, R, hm, hi => by
    have hI : (I, J, R).1 94 3 = Int32.ofNat c := hi.1.2.1
    have hIn : (I, J, R).1 94 1 = Int32.ofNat n := hi.1.1
    have hr8 : r < 8 := by omega
    have b1 := xt_nat (n := r) (by omega)
    have b2 : (Int32.ofNat r).toInt.toNat = r := by omega
    have e1 := yd_16 r hr8
    have e2 : ((16 : Int32) + Int32.ofNat r).toInt.toNat = 16 + r := by omega
    obtain ⟨g1, g2, g3, g4, g5⟩ := hi.2.2.2.2 r hr8
    have g5' : (I, J, R).1 95 (16 + r) = il r := g5
    have g4' : (I, J, R).1 98 r = Int32.ofNat (cn r) := g4.trans (hcn r (by omega))
    have hnight : xq_D xqP (d + 172) 257 [.ref 94] (I, J, R) = some (some (.int (Int32.ofNat (2 ^ n - 1))), I, J, R) := by
      rw [qX8_night_eq, hIn, (yd_full n (by omega)).1]
    -- what follows
    have next : ∃ I' R', qX8_layMay_h58 (d + 172) wo (Int32.ofNat r) 0 (xq_upd (xq_upd I 111 r (Int32.ofNat (yd_mayR n wo il cn r))) 112 r 0, J, R) = some (none, I', J, R') ∧ yd_frR I I' ∧ (∀ k j, ¬ (k = 94 ∧ j = 12) → R' k j = R k j) ∧ (∀ r', r ≤ r' → r' < c → I' 111 r' = Int32.ofNat (yd_mayR n wo il cn r') ∧ I' 112 r' = 0 ∧ ∀ h, h < 8 → I' 115 (8 * r' + h) = Hd r' h) ∧ ∀ r', r' < r → I' 111 r' = I 111 r' ∧ I' 112 r' = I 112 r' ∧ ∀ h, h < 8 → I' 115 (8 * r' + h) = I 115 (8 * r' + h) := by
      have hi1 : yd_inR (xq_upd (xq_upd I 111 r (Int32.ofNat (yd_mayR n wo il cn r))) 112 r 0) R n c n0 T ti wi mo ca il ni := yd_inR_fr (fun k j b1 b2 b3 => by rw [xq_upd_n (by omega), xq_upd_n (by omega)]) (fun _ _ _ => rfl) hi
      obtain ⟨I1, R1, x1, x2, x3, x4, x5, x6⟩ := yd_lay8 (d := d) (J := J) (wo := wo) hn0 hHd hr8 8 0 _ R (by omega) hi1
      have hi2 := yd_inR_fr x2 x4 hi1
      obtain ⟨I', R', y1, y2, y3, y4, y5⟩ := yd_layl hn hc hn0 hHd hcn m (r + 1) I1 R1 (by omega) hi2
      refine ⟨I', R', x1.trans y1, fun k j b1 b2 b3 => ?_, fun k j hk => (y3 k j hk).trans (x4 k j hk), fun r' h1 h2 => ?_, fun r' h1 => ?_⟩
      · rw [y2 k j b1 b2 b3, x2 k j b1 b2 b3, xq_upd_n (by omega), xq_upd_n (by omega)]
      · by_cases e : r' = r
        · subst e
          obtain ⟨z1, z2, z3⟩ := y5 r' (by omega)
          refine ⟨?_, ?_, fun h hh => ?_⟩
          · rw [z1, x3 111 (by decide) (by decide) (by decide), xu_k (by decide), xu_t]
          · rw [z2, x3 112 (by decide) (by decide) (by decide), xu_t]
          · rw [z3 h hh]
            exact x5 h (Nat.zero_le _) hh
        · exact y4 r' (by omega) h2
      · obtain ⟨z1, z2, z3⟩ := y5 r' (by omega)
        refine ⟨?_, ?_, fun h hh => ?_⟩
        · rw [z1, x3 111 (by decide) (by decide) (by decide), xu_k (by decide), xu_j (by omega)]
        · rw [z2, x3 112 (by decide) (by decide) (by decide), xu_j (by omega), xu_k (by decide)]
        · rw [z3 h hh, x6 _ (by omega), xu_k (by decide), xu_k (by decide)]
    have h33 : yd_mayR n wo il cn r = 0 → qX8_layMay_h33 (d + 172) wo (Int32.ofNat r) (Int32.ofNat r) (I, J, R) = qX8_layMay_h58 (d + 172) wo (Int32.ofNat r) 0 (xq_upd (xq_upd I 111 r (Int32.ofNat (yd_mayR n wo il cn r))) 112 r 0, J, R) := by
      intro hz
      rw [qX8_layMay_h33_eq, b2, b1, if_pos (by omega), if_pos (by omega), hz]
      rfl
    rw [qX8_layMay_h2_eq, hI, if_neg (fun z => by have := (xr_le (by omega) (by omega)).mp z; omega), e2, e1, if_pos (by omega), g5']
    by_cases k1 : il r = 1
    · rw [if_pos k1, h33 (if_neg (fun z => z.1 k1))]
      exact next
    · rw [if_neg k1]
      by_cases k2 : Int32.ofNat r = wo
      · rw [if_neg (fun z => z k2), h33 (if_neg (fun z => z.2 k2))]
        exact next
      · have hm : yd_mayR n wo il cn r = cn r &&& (2 ^ n - 1) := if_pos ⟨k1, k2⟩
        rw [if_pos k2, b2, b1, if_pos (by omega), hnight, xb_I1, if_pos (by omega), if_pos (by omega), g4', yd_and]
        rw [hm] at next
        exact next
end YDJ
