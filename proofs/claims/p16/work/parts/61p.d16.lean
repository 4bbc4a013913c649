/-! HELD ROTAS: layLine() of the reference: the least row of the best -/
def yd_lb (Ib I : Nat → Nat → Int32) : Prop := ∀ k j, ¬ (111 ≤ k ∧ k ≤ 114) → ¬ k = 116 → ¬ k = 118 → I k j = Ib k j
def yd_ms (c full : Nat) (I : Nat → Nat → Int32) (may mst : Nat → Nat) : Prop := ∀ r, r < c → I 111 r = Int32.ofNat (may r) ∧ may r &&& full = may r ∧ I 112 r = Int32.ofNat (mst r) ∧ mst r < 256
section YDP
variable {d n c full : Nat} {Ib : Nat → Nat → Int32} {J : Nat → Nat → Int64} {R : Nat → Nat → Nat} {v1 : Int32} {cap : Nat → Int} {w : Nat → Nat → Int}
/-- what stays while rows are sought -/
def yd_bs (d n c : Nat) (Ib : Nat → Nat → Int32) (J : Nat → Nat → Int64) (R : Nat → Nat → Nat) (v1 : Int32) (cap : Nat → Int) (w : Nat → Nat → Int) : Prop := Ib 94 1 = Int32.ofNat n ∧ Ib 94 3 = Int32.ofNat c ∧ Ib 94 39 = 1000000000 ∧ (∀ r, r < c → (Ib 96 r).toInt = cap r ∧ ∀ h, h < 8 → 0 ≤ (Ib 115 (8 * r + h)).toInt ∧ (Ib 115 (8 * r + h)).toInt ≤ 999) ∧ ∀ I, yd_lb Ib I → ∀ r own, r < c → own < 256 → ∃ x, xq_D xqP (d + 3) 199 [.ref 94, .int v1, .int (Int32.ofNat r), .int (Int32.ofNat own)] (I, J, R) = some (some (.int x), I, J, R) ∧ x.toInt = w r own ∧ 0 ≤ w r own ∧ w r own ≤ 1000000
theorem yd_sol (hn : n ≤ 8) (hc : c ≤ 8) (hfull : full = 2 ^ n - 1) (hbs : yd_bs d n c Ib J R v1 cap w) {I : Nat → Nat → Int32} {may mst : Nat → Nat} (hlb : yd_lb Ib I) (hms : yd_ms c full I may mst) : ∃ v I', xq_D xqP (d + 4) 282 [.ref 94, .int v1] (I, J, R) = some (some (.int v), I', J, R) ∧ yd_ag I I' ∧ (0 ≤ v.toInt ∧ v.toInt ≤ yd_FAR) ∧ (v.toInt < yd_FAR → ∃ o, yd_A c full may mst cap o ∧ v.toInt = yd_Sr w c c o) ∧ ∀ o, yd_A c full may mst cap o → v.toInt ≤ yd_Sr w c c o := by
  have hf := (yd_full n (by omega)).2
  rw [← hfull] at hf
  obtain ⟨k1, k2, k3, k4, k5⟩ := hbs
  refine yd_solve (d := d + 2) (okc := fun r x => (yd_pc x : Int) ≤ cap r ∧ mst r &&& x = mst r) hn hc hfull ((hlb _ _ (by decide) (by decide) (by decide)).trans k1) ((hlb _ _ (by decide) (by decide) (by decide)).trans k2) (fun r hr => ⟨(hms r hr).1, (hms r hr).2.1⟩) (fun r hr I2 hag own ho => ?_)
  obtain ⟨g1, g2, g3, g4⟩ := hms r hr
  have hmay := yd_le g2
  have hown : own < 256 := by
    have := yd_le ho
    omega
  have hlb2 : yd_lb Ib I2 := fun k j a1 a2 a3 => (hag k j a2).trans (hlb k j a1 a2 a3)
  obtain ⟨q1, q2⟩ := k4 r hr
  have hcan := yd_can (d := d) (J := J) (R := R) (I := I2) (r := r) (own := own) (mst := mst r) (cap := cap r) (by omega) hown g4 (fun h hh => by rw [hlb2 115 _ (by decide) (by decide) (by decide)]; exact q2 h hh) (by rw [hlb2 96 _ (by decide) (by decide) (by decide)]; exact q1) ((hag 112 r (by decide)).trans g3) ((hlb2 94 39 (by decide) (by decide) (by decide)).trans k3)
  exact ⟨⟨_, hcan, fun z => if_pos z, fun z => if_neg z⟩, k5 I2 hlb2 r own hr hown⟩
theorem yd_fm_sub {may : Nat → Nat} {h v r : Nat} (h2 : may r &&& full = may r) (hm : may r < 256) (hh : h < 8) : yd_fm may h v r &&& full = yd_fm may h v r := by
  unfold yd_fm
  split
  · exact h2
  · refine yd_ss.mpr (fun i hi => ?_)
    rw [yd_off_tb hm hh] at hi
    simp only [Bool.and_eq_true] at hi
    exact yd_ss.mp h2 i hi.1
theorem yd_fs_lt {mst : Nat → Nat} {h v r : Nat} (hm : mst r < 256) (hh : h < 8) : yd_fs mst h v r < 256 := by
  unfold yd_fs
  split
  · exact Nat.or_lt_two_pow (n := 8) hm (yd_p2 h hh).2
  · exact hm
/-- who is best and has an hour -/
def yd_bst (c full : Nat) (may mst : Nat → Nat) (cap : Nat → Int) (w : Nat → Nat → Int) (best : Int) (o : Nat → Nat) : Prop := yd_A c full may mst cap o ∧ yd_Sr w c c o = best
theorem yd_lr (hn : n ≤ 8) (hc : c ≤ 8) (hfull : full = 2 ^ n - 1) (hbs : yd_bs d n c Ib J R v1 cap w) {v2 : Int32} {best : Int} (hv2 : v2.toInt = best) (hbest : best < yd_FAR) {h : Nat} (hh : h < n) {may mst : Nat → Nat} (hmin : ∀ o, yd_A c full may mst cap o → best ≤ yd_Sr w c c o) (hex : ∃ o, yd_bst c full may mst cap w best o) : ∀ (m s : Nat) (I : Nat → Nat → Int32), s + m = c → yd_lb Ib I → yd_ms c full I may mst → (∀ r, r < s → ∀ o, yd_bst c full may mst cap w best o → ¬ (o r).testBit h = true) → ∃ I' v, qX8_layLine_h16 (d + 4) v1 v2 (Int32.ofNat h) 0 (Int32.ofNat s) (I, J, R) = qX8_layLine_h2 (d + 4) v1 v2 (Int32.ofNat (h + 1)) (I', J, R) ∧ yd_lb Ib I' ∧ v < c ∧ yd_ms c full I' (yd_fm may h v) (yd_fs mst h v) ∧ I' 118 h = Int32.ofNat v ∧ (∀ j, ¬ j = h → I' 118 j = I 118 j) ∧ (∃ o, yd_bst c full may mst cap w best o ∧ (o v).testBit h = true) ∧ ∀ r, r < v → ∀ o, yd_bst c full may mst cap w best o → ¬ (o r).testBit h = true
  | 0, s, I, hs, hlb, hms, hno => by
    obtain ⟨o, ho⟩ := hex
    have hb := (yd_Pr_bit (Nat.le_refl _) ho.1).1 h
    have hfb : full.testBit h = true := by
      rw [hfull, Nat.testBit_two_pow_sub_one]
      simpa using hh
    obtain ⟨r, -, h2, h3⟩ := hb.mp hfb
    exact absurd h3 (hno r (by omega) o ho)
  | m + 1, s, I, hs, hlb, hms, hno => by
    have hf := (yd_full n (by omega)).2
    rw [← hfull] at hf
    have hh8 : h < 8 := by omega
    have hbs9 := hbs
    obtain ⟨k1, k2, k3, k4, k5⟩ := hbs9
    have b1 := xt_nat (n := s) (by omega)
    have b2 : (Int32.ofNat s).toInt.toNat = s := by omega
    have c1 := xt_nat (n := h) (by omega)
    have c2 : (Int32.ofNat h).toInt.toNat = h := by omega
    have a1 : Int32.ofNat s + (1 : Int32) = Int32.ofNat (s + 1) := (Int32.ofNat_add s 1).symm
    have a2 : Int32.ofNat h + (1 : Int32) = Int32.ofNat (h + 1) := (Int32.ofNat_add h 1).symm
    obtain ⟨g1, g2, g3, g4⟩ := hms s (by omega)
    have hm256 : ∀ r, r < c → may r < 256 := fun r hr => by
      have := yd_le (hms r hr).2.1
      omega
    have h3 : (I, J, R).1 94 3 = Int32.ofNat c := (hlb 94 3 (by decide) (by decide) (by decide)).trans k2
    have g1' : (I, J, R).1 111 s = Int32.ofNat (may s) := g1
    -- the next rider
    have next : ∀ I2 : Nat → Nat → Int32, yd_lb Ib I2 → yd_ms c full I2 may mst → (∀ j, I2 118 j = I 118 j) → (∀ o, yd_bst c full may mst cap w best o → ¬ (o s).testBit h = true) → ∃ I' v, qX8_layLine_h103 (d + 4) v1 v2 (Int32.ofNat h) 0 (Int32.ofNat s) (I2, J, R) = qX8_layLine_h2 (d + 4) v1 v2 (Int32.ofNat (h + 1)) (I', J, R) ∧ yd_lb Ib I' ∧ v < c ∧ yd_ms c full I' (yd_fm may h v) (yd_fs mst h v) ∧ I' 118 h = Int32.ofNat v ∧ (∀ j, ¬ j = h → I' 118 j = I 118 j) ∧ (∃ o, yd_bst c full may mst cap w best o ∧ (o v).testBit h = true) ∧ ∀ r, r < v → ∀ o, yd_bst c full may mst cap w best o → ¬ (o r).testBit h = true := by
      intro I2 l2 m2 e2 n2
      rw [qX8_layLine_h103_eq, a1]
      obtain ⟨I', v, x1, x2, x3, x4, x5, x6, x7, x8⟩ := yd_lr hn hc hfull hbs hv2 hbest hh hmin hex m (s + 1) I2 (by omega) l2 m2 (fun r hr o ho => by
        by_cases e : r = s
        · rw [e]
          exact n2 o ho
        · exact hno r (by omega) o ho)
      exact ⟨I', v, x1, x2, x3, x4, x5, fun j hj => (x6 j hj).trans (e2 j), x7, x8⟩
    rw [qX8_layLine_h16_eq, h3, if_neg (fun z => by have := (xr_le (by omega) (by omega)).mp z; omega), if_neg (fun z => z rfl), b2, b1, if_pos (by omega), g1', yd_has (hm256 s (by omega)) hh8, xb_I1]
    by_cases hb : (may s).testBit h = true
    · rw [if_pos hb, if_pos (by decide)]
      obtain ⟨I1, x1, x2, x3⟩ := yd_keep (d := d + 3) (I := I) (J := J) (R := R)
      obtain ⟨I2, y1, y2, y3⟩ := yd_fix (d := d + 3) (I := I1) (J := J) (R := R) (h := h) (v := s) (c := c) hh8 (by omega) hc (may := may) (mst := mst) ((x2 94 3 (by decide) (by decide)).trans h3) (fun r hr => by
        obtain ⟨q1, q2, q3, q4⟩ := hms r hr
        exact ⟨(x2 111 r (by decide) (by decide)).trans q1, (x2 112 r (by decide) (by decide)).trans q3⟩)
      rw [x1, xb_V1, y1, xb_V1]
      have l2 : yd_lb Ib I2 := fun k j z1 z2 z3 => by rw [y2 k j (by omega) (by omega), x2 k j (by omega) (by omega)]; exact hlb k j z1 z2 z3
      have m2 : yd_ms c full I2 (yd_fm may h s) (yd_fs mst h s) := fun r hr => by
        obtain ⟨q1, q2, q3, q4⟩ := hms r hr
        exact ⟨(y3 r hr).1, yd_fm_sub q2 (hm256 r hr) hh8, (y3 r hr).2, yd_fs_lt q4 hh8⟩
      -- brought back
      have back : ∀ I3 : Nat → Nat → Int32, (∀ k j, ¬ k = 116 → I3 k j = I2 k j) → (∀ o, yd_bst c full may mst cap w best o → ¬ (o s).testBit h = true) → ∃ I' v, qX8_layLine_h80 (d + 4) v1 v2 (Int32.ofNat h) 0 (Int32.ofNat s) (I3, J, R) = qX8_layLine_h2 (d + 4) v1 v2 (Int32.ofNat (h + 1)) (I', J, R) ∧ yd_lb Ib I' ∧ v < c ∧ yd_ms c full I' (yd_fm may h v) (yd_fs mst h v) ∧ I' 118 h = Int32.ofNat v ∧ (∀ j, ¬ j = h → I' 118 j = I 118 j) ∧ (∃ o, yd_bst c full may mst cap w best o ∧ (o v).testBit h = true) ∧ ∀ r, r < v → ∀ o, yd_bst c full may mst cap w best o → ¬ (o r).testBit h = true := by
        intro I3 f3 n3
        obtain ⟨I4, z1, z2, z3⟩ := yd_bring (d := d + 3) (I := I3) (J := J) (R := R)
        rw [qX8_layLine_h80_eq, z1, xb_V1]
        refine next I4 (fun k j q1 q2 q3 => ?_) (fun r hr => ?_) (fun j => ?_) n3
        · rw [z2 k j (by omega) (by omega), f3 k j q2]
          exact l2 k j q1 q2 q3
        · obtain ⟨q1, q2, q3, q4⟩ := hms r hr
          obtain ⟨u1, u2⟩ := z3 r (by omega)
          obtain ⟨w1, w2⟩ := x3 r (by omega)
          refine ⟨?_, q2, ?_, q4⟩
          · rw [u1, f3 113 r (by decide), y2 113 r (by decide) (by decide), w1]
            exact q1
          · rw [u2, f3 114 r (by decide), y2 114 r (by decide) (by decide), w2]
            exact q3
        · rw [z2 118 j (by decide) (by decide), f3 118 j (by decide), y2 118 j (by decide) (by decide), x2 118 j (by decide) (by decide)]
      obtain ⟨p1, p2, p3, p4⟩ := m2 s (by omega)
      have pm : yd_fm may h s s < 256 := by
        have := yd_le p2
        omega
      have hA := fun o => yd_A_fix (c := c) (full := full) (may := may) (mst := mst) (cap := cap) (h := h) (v := s) (o := o) hh8 (by omega) hm256
      rw [yd_right (d := d + 3) (by omega) pm p4 p1 p3, xb_I1]
      by_cases hr : yd_fs mst h s s &&& yd_fm may h s s = yd_fs mst h s s
      · rw [if_pos hr, if_neg (by decide)]
        obtain ⟨v, I3, z1, z2, z3, z4, z5⟩ := yd_sol hn hc hfull hbs l2 m2
        rw [z1, xb_I1]
        by_cases hv : v = v2
        · rw [if_neg (fun z => z hv), c2, c1, if_pos (by omega), qX8_layLine_h103_eq, a1]
          have l4 : yd_lb Ib (xq_upd I3 118 h (Int32.ofNat s)) := fun k j q1 q2 q3 => by rw [xu_k q3, z2 k j q2]; exact l2 k j q1 q2 q3
          have h34 : (xq_upd I3 118 h (Int32.ofNat s), J, R).1 94 3 = Int32.ofNat c := (l4 94 3 (by decide) (by decide) (by decide)).trans k2
          have hgo : qX8_layLine_h16 (d + 4) v1 v2 (Int32.ofNat h) 1 (Int32.ofNat (s + 1)) (xq_upd I3 118 h (Int32.ofNat s), J, R) = qX8_layLine_h2 (d + 4) v1 v2 (Int32.ofNat (h + 1)) (xq_upd I3 118 h (Int32.ofNat s), J, R) := by
            rw [qX8_layLine_h16_eq, h34]
            by_cases q : Int32.ofNat c ≤ Int32.ofNat (s + 1)
            · rw [if_pos q, qX8_layLine_h109_eq, a2]
            · rw [if_neg q, if_pos (by decide), qX8_layLine_h109_eq, a2]
          refine ⟨_, s, hgo, l4, by omega, fun r hr => ?_, xu_t, fun j hj => ?_, ?_, fun r hr => hno r hr⟩
          · obtain ⟨q1, q2, q3, q4⟩ := m2 r hr
            exact ⟨by rw [xu_k (by decide), z2 111 r (by decide)]; exact q1, q2, by rw [xu_k (by decide), z2 112 r (by decide)]; exact q3, q4⟩
          · rw [xu_j hj, z2 118 j (by decide), y2 118 j (by decide) (by decide), x2 118 j (by decide) (by decide)]
          · obtain ⟨o, o1, o2⟩ := z4 (by rw [hv, hv2]; exact hbest)
            obtain ⟨o3, o4⟩ := (hA o).mp o1
            exact ⟨o, ⟨o3, by rw [← o2, hv, hv2]⟩, o4⟩
        · rw [if_pos hv]
          refine back I3 z2 (fun o ho hbit => hv ?_)
          have o1 := (hA o).mpr ⟨ho.1, hbit⟩
          have o2 := z5 o o1
          have o3 := ho.2
          obtain ⟨o', p1', p2'⟩ := z4 (by omega)
          have := hmin o' ((hA o').mp p1').1
          apply xt_eq.mpr
          omega
      · rw [if_neg hr, if_pos rfl]
        refine back I2 (fun _ _ _ => rfl) (fun o ho hbit => hr ?_)
        have o1 := (hA o).mpr ⟨ho.1, hbit⟩
        unfold yd_A at o1
        rw [yd_Pr_iff (Nat.le_refl _)] at o1
        obtain ⟨q1, q2, q3⟩ := o1.1 s (by omega) (by omega)
        exact yd_ss.mpr (fun i hi => yd_ss.mp q1 i (yd_ss.mp q3 i hi))
    · rw [if_neg hb, if_neg (fun z => z rfl)]
      refine next I hlb hms (fun _ => rfl) (fun o ho hbit => hb ?_)
      have o1 := ho.1
      unfold yd_A at o1
      rw [yd_Pr_iff (Nat.le_refl _)] at o1
      exact yd_ss.mp (o1.1 s (by omega) (by omega)).1 h hbit
/-- the row is the least of the best -/
def yd_lex (c full n h : Nat) (may mst : Nat → Nat) (cap : Nat → Int) (w : Nat → Nat → Int) (best : Int) (ρ : Nat → Nat) : Prop := (∀ i, h ≤ i → i < n → ρ i < c) ∧ (∃ o, yd_bst c full may mst cap w best o ∧ ∀ i, h ≤ i → i < n → (o (ρ i)).testBit i = true) ∧ ∀ i, h ≤ i → i < n → ∀ o, yd_bst c full may mst cap w best o → (∀ i', h ≤ i' → i' < i → (o (ρ i')).testBit i' = true) → ∀ r, r < ρ i → ¬ (o r).testBit i = true
theorem yd_line (hn : n ≤ 8) (hc : c ≤ 8) (hfull : full = 2 ^ n - 1) (hbs : yd_bs d n c Ib J R v1 cap w) {v2 : Int32} {best : Int} (hv2 : v2.toInt = best) (hbest : best < yd_FAR) : ∀ (m h : Nat) (I : Nat → Nat → Int32) (may mst : Nat → Nat), h + m = n → yd_lb Ib I → yd_ms c full I may mst → (∀ o, yd_A c full may mst cap o → best ≤ yd_Sr w c c o) → (∃ o, yd_bst c full may mst cap w best o) → ∃ I' ρ, qX8_layLine_h2 (d + 4) v1 v2 (Int32.ofNat h) (I, J, R) = some (none, I', J, R) ∧ yd_lb Ib I' ∧ (∀ i, h ≤ i → i < n → I' 118 i = Int32.ofNat (ρ i)) ∧ (∀ i, i < h → I' 118 i = I 118 i) ∧ yd_lex c full n h may mst cap w best ρ
  | 0, h, I, may, mst, hm, hlb, hms, hmin, hex => by
    have hI : (I, J, R).1 94 1 = Int32.ofNat n := (hlb 94 1 (by decide) (by decide) (by decide)).trans hbs.1
    rw [qX8_layLine_h2_eq, hI, if_pos ((xr_le (by omega) (by omega)).mpr (by omega))]
    obtain ⟨o, ho⟩ := hex
    exact ⟨I, fun _ => 0, rfl, hlb, fun i h1 h2 => by omega, fun _ _ => rfl, fun i h1 h2 => by omega, ⟨o, ho, fun i h1 h2 => by omega⟩, fun i h1 h2 => by omega⟩
  | m + 1, h, I, may, mst, hm, hlb, hms, hmin, hex => by
    have hf := (yd_full n (by omega)).2
    rw [← hfull] at hf
    have hI : (I, J, R).1 94 1 = Int32.ofNat n := (hlb 94 1 (by decide) (by decide) (by decide)).trans hbs.1
    have hm256 : ∀ r, r < c → may r < 256 := fun r hr => by
      have := yd_le (hms r hr).2.1
      omega
    obtain ⟨I1, v, x1, x2, x3, x4, x5, x6, x7, x8⟩ := yd_lr hn hc hfull hbs hv2 hbest (show h < n by omega) hmin hex c 0 I (by omega) hlb hms (fun r hr => absurd hr (Nat.not_lt_zero r))
    have hA := fun o => yd_A_fix (c := c) (full := full) (may := may) (mst := mst) (cap := cap) (h := h) (v := v) (o := o) (by omega) x3 hm256
    have hB : ∀ o, yd_bst c full (yd_fm may h v) (yd_fs mst h v) cap w best o ↔ yd_bst c full may mst cap w best o ∧ (o v).testBit h = true := fun o => by
      unfold yd_bst
      rw [hA o]
      constructor
      · intro z
        exact ⟨⟨z.1.1, z.2⟩, z.1.2⟩
      · intro z
        exact ⟨⟨z.1.1, z.2⟩, z.1.2⟩
    obtain ⟨o7, o71, o72⟩ := x7
    obtain ⟨I', ρ, y1, y2, y3, y4, y5, ⟨oo, y6, y7⟩, y8⟩ := yd_line hn hc hfull hbs hv2 hbest m (h + 1) I1 (yd_fm may h v) (yd_fs mst h v) (by omega) x2 x4 (fun o ho => hmin o ((hA o).mp ho).1) ⟨o7, (hB o7).mpr ⟨o71, o72⟩⟩
    refine ⟨I', fun i => if i = h then v else ρ i, ?_, y2, fun i h1 h2 => ?_, fun i hi => ?_, fun i h1 h2 => ?_, ⟨oo, ((hB oo).mp y6).1, fun i h1 h2 => ?_⟩, fun i h1 h2 o ho hpre r hr => ?_⟩
    · rw [qX8_layLine_h2_eq, hI, if_neg (fun z => by have := (xr_le (by omega) (by omega)).mp z; omega)]
      have x1 : qX8_layLine_h16 (d + 4) v1 v2 (Int32.ofNat h) 0 0 (I, J, R) = _ := x1
      rw [x1]
      exact y1
    · dsimp only
      by_cases e : i = h
      · rw [if_pos e, e, y4 h (by omega)]
        exact x5
      · rw [if_neg e]
        exact y3 i (by omega) h2
    · rw [y4 i (by omega)]
      exact x6 i (by omega)
    · dsimp only
      by_cases e : i = h
      · rw [if_pos e]
        exact x3
      · rw [if_neg e]
        exact y5 i (by omega) h2
    · dsimp only
      by_cases e : i = h
      · rw [if_pos e, e]
        exact ((hB oo).mp y6).2
      · rw [if_neg e]
        exact y7 i (by omega) h2
    · dsimp only at hr hpre
      by_cases e : i = h
      · rw [if_pos e] at hr
        rw [e]
        exact x8 r hr o ho
      · rw [if_neg e] at hr
        have hbit : (o v).testBit h = true := by
          have := hpre h (Nat.le_refl _) (by omega)
          rw [if_pos rfl] at this
          exact this
        refine y8 i (by omega) h2 o ((hB o).mpr ⟨ho, hbit⟩) (fun i' a1 a2 => ?_) r hr
        have := hpre i' (by omega) a2
        rw [if_neg (by omega)] at this
        exact this
end YDP
