/-! first(), vigil() -/
noncomputable def yFI (n c : Nat) (be : Int32) (ca mo wi : Nat → Int32) (val : (Nat → Int32) → Int32) : Nat → Nat → (Nat → Int32) → Int32
  | 0, _, _ => -2
  | m + 1, k, s => if (yNg n be ca mo wi s).1 = 0 then yFI n c be ca mo wi val m (k + 1) (yNt n c be ca mo wi val s) else Int32.ofNat k
noncomputable def yVI (n c : Nat) (be : Int32) (ca mo wi : Nat → Int32) (val : (Nat → Int32) → Int32) : Nat → Int32 → Int32 → (Nat → Int32) → Int32
  | 0, v2, _, _ => v2
  | m + 1, v2, v4, s => yVI n c be ca mo wi val m (if v2 < (if (yNg n be ca mo wi s).1 = 0 then v4 + 1 else 0) then (if (yNg n be ca mo wi s).1 = 0 then v4 + 1 else 0) else v2) (if (yNg n be ca mo wi s).1 = 0 then v4 + 1 else 0) (yNt n c be ca mo wi val s)
set_option maxRecDepth 100000 in
theorem ym_first : ym_0 k9X7_first k9X8_first = true := by decide +kernel
set_option maxRecDepth 100000 in
theorem ym_vigil : ym_0 k9X7_vigil k9X8_vigil = true := by decide +kernel
section YU30
variable {d c n q n0 N : Nat} {I I' : Nat → Nat → Int32} {J : Nat → Nat → Int64} {R R' : Nat → Nat → Nat} {val : (Nat → Int32) → Int32} {CC : List Int32} {T : Nat → Int32} {be : Int32} {ca mo wi : Nat → Int32} {x : Int32} {S : xq_S}
theorem yFI_cg (hn : n ≤ 8) (hc : c ≤ 8) : ∀ (m k : Nat) (s s' : Nat → Int32), (∀ i, i < 27 → s i = s' i) → yq_w c s → yFI n c be ca mo wi val m k s = yFI n c be ca mo wi val m k s'
  | 0, k, s, s', _, _ => rfl
  | m + 1, k, s, s', h, hw => by
    have e := yNg_cg (be := be) (ca := ca) (mo := mo) (wi := wi) (ca2 := ca) (mo2 := mo) (wi2 := wi) hc hn h (fun _ _ => ⟨rfl, rfl, rfl⟩) hw
    have e2 := yFI_cg hn hc m (k + 1) _ _ (yNt_cg (be := be) (ca := ca) (mo := mo) (wi := wi) (val := val) hc hn h (fun _ _ => ⟨rfl, rfl, rfl⟩) hw) (yNt_w hc hn hw)
    rw [yFI, yFI, e, e2]
theorem yVI_cg (hn : n ≤ 8) (hc : c ≤ 8) : ∀ (m : Nat) (v2 v4 : Int32) (s s' : Nat → Int32), (∀ i, i < 27 → s i = s' i) → yq_w c s → yVI n c be ca mo wi val m v2 v4 s = yVI n c be ca mo wi val m v2 v4 s'
  | 0, v2, v4, s, s', _, _ => rfl
  | m + 1, v2, v4, s, s', h, hw => by
    have e := yNg_cg (be := be) (ca := ca) (mo := mo) (wi := wi) (ca2 := ca) (mo2 := mo) (wi2 := wi) hc hn h (fun _ _ => ⟨rfl, rfl, rfl⟩) hw
    have e2 := fun a b => yVI_cg hn hc m a b _ _ (yNt_cg (be := be) (ca := ca) (mo := mo) (wi := wi) (val := val) hc hn h (fun _ _ => ⟨rfl, rfl, rfl⟩) hw) (yNt_w hc hn hw)
    rw [yVI, yVI, e, e2]
theorem yc_fil (hN : N ≤ 60) (hn : n ≤ 8) (hc : c ≤ 8) (hq : q ≤ 40) (hR : R 3 9 = 10) (hL : yLv CC T n0 val) : ∀ (m k : Nat) (I : Nat → Nat → Int32), k + m = N → yIc n c q be CC ca mo wi I → yq_w c (yq_s I 21) → ∃ I' J', qX7_first_h26 (d + 5) (Int32.ofNat N) (Int32.ofNat k) (I, J, R) = some (some (.int (yFI n c be ca mo wi val m k (yq_s I 21))), I', J', R)
  | 0, k, I, hm, hI, hw => by
    have e : k = N := by omega
    subst e
    refine ⟨I, J, ?_⟩
    rw [qX7_first_h26_eq, if_pos (Int32.le_refl _)]
    rfl
  | m + 1, k, I, hm, hI, hw => by
    have a1 : Int32.ofNat k + (1 : Int32) = Int32.ofNat (k + 1) := (Int32.ofNat_add k 1).symm
    obtain ⟨I1, g0, g1, g2, g3, g4, -⟩ := yS21 (d := d) (J := J) hn hc hq hR hL hI hw
    have g2' : (I1, J, R).1 3 10 = (yNg n be ca mo wi (yq_s I 21)).1 := g2
    rw [qX7_first_h26_eq, if_neg (fun z => by have := (xr_le (by omega) (by omega)).mp z; omega), g0, xb_V1, g2', yFI]
    by_cases h : (yNg n be ca mo wi (yq_s I 21)).1 = 0
    · rw [if_pos h, if_pos h, a1, ← yFI_cg hn hc m (k + 1) _ _ g1 g4]
      exact yc_fil hN hn hc hq hR hL m (k + 1) I1 (by omega) g3 g4
    · rw [if_neg h, if_neg h, show xq_D xqP (d + 5) 143 [.int (yNg n be ca mo wi (yq_s I 21)).1] (I1, J, R) = some (some (.int (ybc (((yNg n be ca mo wi (yq_s I 21)).1 &&& -(yNg n be ca mo wi (yq_s I 21)).1) - 1))), I1, J, R) from by rw [qX7_lowest_eq, yc_bc, xb_I1], xb_I1, yc_tell1, xb_V1]
      exact ⟨_, _, rfl⟩
theorem yr_fil (hN : N ≤ 60) (hn : n ≤ 8) (hc : c ≤ 8) (hn0 : n0 ≤ 40) (hL : yLv CC T n0 val) : ∀ (m k : Nat) (I : Nat → Nat → Int32) (R : Nat → Nat → Nat), k + m = N → yIr n c n0 be T ca mo wi I R → yq_w c (I 107) → ∃ I' J' R', qX8_first_h31 (d + 174) (Int32.ofNat N) (Int32.ofNat k) (I, J, R) = some (some (.int (yFI n c be ca mo wi val m k (I 107))), I', J', R')
  | 0, k, I, R, hm, hI, hw => by
    have e : k = N := by omega
    subst e
    refine ⟨I, J, R, ?_⟩
    rw [qX8_first_h31_eq, if_pos (Int32.le_refl _)]
    rfl
  | m + 1, k, I, R, hm, hI, hw => by
    have a1 : Int32.ofNat k + (1 : Int32) = Int32.ofNat (k + 1) := (Int32.ofNat_add k 1).symm
    obtain ⟨I1, R1, g0, g1, g2, g3, g4, -⟩ := yS107 (d := d) (J := J) hn hc hn0 hL hI hw
    have g2' : (I1, J, R1).1 94 27 = (yNg n be ca mo wi (I 107)).1 := g2
    rw [qX8_first_h31_eq, if_neg (fun z => by have := (xr_le (by omega) (by omega)).mp z; omega), g0, xb_V1, g2', yFI]
    by_cases h : (yNg n be ca mo wi (I 107)).1 = 0
    · rw [if_neg (fun z => z h), if_pos h, a1, ← yFI_cg hn hc m (k + 1) _ _ g1 g4]
      exact yr_fil hN hn hc hn0 hL m (k + 1) I1 R1 (by omega) g3 g4
    · obtain ⟨y, hy⟩ := yr_ntz (d := d + 173) (x := (yNg n be ca mo wi (I 107)).1) (S := (xq_upd I1 94 10 0, J, R1))
      have hy' : xq_D xqP (d + 174) 15 [.int (yNg n be ca mo wi (I 107)).1] (xq_upd (I1, J, R1).1 94 10 0, (I1, J, R1).2) = some (some (.int y), xq_upd I1 94 10 0, J, R1) := hy
      rw [if_pos h, if_neg h, hy', xb_I1, yr_tell (I := xq_upd I1 94 10 0) (n := 0) xu_t (by decide), xb_V1]
      exact ⟨_, _, _, rfl⟩
theorem yr_open {I1 : Nat → Nat → Int32} {s : Nat → Int32} {J' : Nat → Nat → Int64} (hr : ∀ (I1 : Nat → Nat → Int32) (R : Nat → Nat → Nat), (∀ k j, xv k j = true → 94 ≤ k → ¬ (k = 94 ∧ j = 11) → I1 k j = I k j) → R 94 18 = 102 → yIr n c n0 be T ca mo wi I1 R ∧ ∀ i, i < 27 → I1 95 i = s i) (hw : yq_w c s) (g : ∀ k j, xv k j = true → 94 ≤ k → I1 k j = I k j) (hR : R' 94 18 = 102) : ∃ Ia, xq_D xqP (d + 1) 246 [.ref 95, .ref 107, .int 0] (xq_upd I1 94 11 0, J', R') = some (none, Ia, J', R') ∧ (∀ i, i < 27 → Ia 107 i = s i) ∧ yIr n c n0 be T ca mo wi Ia R' ∧ yq_w c (Ia 107) ∧ ∀ i, i < 27 → Ia 95 i = s i := by
  obtain ⟨r1, r2⟩ := hr (xq_upd I1 94 11 0) R' (fun k j h1 h2 h3 => by rw [xq_upd_n h3]; exact g k j h1 h2) hR
  exact yD_r r1 r2 hw
theorem yfirstF (hF : yF I) (hB : yBG I) : yRm yBG 6 119 k9X7_first 175 210 k9X8_first [x] True yF I := by
  refine yObs ym_first (by decide +kernel) hF (fun J R hR => ?_)
  obtain ⟨c, n, q, n0, val, hV, l2, l4, hL, hI, hw, hr⟩ := yOpen hF hB
  have v3 := hV.2.2.1
  have v7 := hV.2.2.2.2.2.2.1
  have e1 : (1 : Int32).toInt = 1 := by decide
  have e60 : (60 : Int32).toInt = 60 := by decide
  by_cases hA : 1 ≤ x.toInt ∧ x.toInt ≤ 60
  · obtain ⟨N, rfl, hN⟩ := ynat (show 0 ≤ x.toInt by omega) hA.2
    have bN := xt_nat (n := N) (by omega)
    obtain ⟨d1, d2, d3⟩ := yD_c hI hw
    obtain ⟨Ic, Jc, c0⟩ := yc_fil (d := 0) (J := J) (R := R) (N := N) (by omega) v7 v3 l2 hR.1 hL N 0 (yq_cp I 21 15) (Nat.zero_add _) d2 d3
    rw [yFI_cg v7 v3 N 0 _ _ d1 d3] at c0
    refine ⟨yFI n c (I 3 8) (I 98) (I 96) (I 97) val N 0 (yq_s I 15), ⟨Ic, Jc, R, ?_⟩, fun I1 J' R' g hB1 hR' => ?_⟩
    · show xq_D xqP 6 119 [.ref 0, .int (Int32.ofNat N)] (I, J, R) = _
      rw [qX7_first_eq, if_neg (fun z => by rw [xt_lt, bN, e1] at z; omega), if_pos (by rw [xt_le, bN, e60]; omega), yq_c21_15, xb_V1]
      exact c0
    · obtain ⟨Ia, a0, a1, a2, a3, -⟩ := yr_open (d := 173) (J' := J') hr hw g hR'.2.2.1
      obtain ⟨Ir, Jr, Rr, r0⟩ := yr_fil (d := 0) (J := J') (N := N) (by omega) v7 v3 l4 hL N 0 Ia R' (Nat.zero_add _) a2 a3
      rw [yFI_cg v7 v3 N 0 _ _ a1 a3] at r0
      refine ⟨Ir, Jr, Rr, ?_⟩
      show xq_D xqP 175 210 [.ref 94, .int (Int32.ofNat N)] (I1, J', R') = _
      have a0' : xq_D xqP 174 246 [.ref 95, .ref 107, .int 0] ((xq_upd (I1, J', R').1 94 11 0), (I1, J', R').2) = some (none, Ia, J', R') := a0
      rw [qX8_first_eq, xe_in, xb_I1, e1, e60, if_pos hA, if_pos (by decide), a0', xb_V1]
      exact r0
  · refine ⟨-1, ⟨I, J, R, ?_⟩, fun I1 J' R' g hB1 hR' => ⟨xq_upd I1 94 11 0, J', R', ?_⟩⟩
    · show xq_D xqP 6 119 [.ref 0, .int x] (I, J, R) = _
      rw [qX7_first_eq]
      by_cases h : x < 1
      · rw [if_pos h]
      · rw [if_neg h, if_neg (fun z => by rw [xt_lt, e1] at h; rw [xt_le, e60] at z; omega)]
    · show xq_D xqP 175 210 [.ref 94, .int x] (I1, J', R') = _
      rw [qX8_first_eq, xe_in, xb_I1, e1, e60, if_neg hA, if_neg (by decide)]
/-- vigil() -/
theorem yc_vil (hN : N ≤ 60) (hn : n ≤ 8) (hc : c ≤ 8) (hq : q ≤ 40) (hR : R 3 9 = 10) (hL : yLv CC T n0 val) : ∀ (m k : Nat) (v2 v3 v4 : Int32) (I : Nat → Nat → Int32), k + m = N → yIc n c q be CC ca mo wi I → yq_w c (yq_s I 21) → ∃ I' J', qX7_vigil_h33 (d + 5) (Int32.ofNat N) v2 v3 v4 (Int32.ofNat k) (I, J, R) = some (some (.int (yVI n c be ca mo wi val m v2 v4 (yq_s I 21))), I', J', R)
  | 0, k, v2, v3, v4, I, hm, hI, hw => by
    have e : k = N := by omega
    subst e
    rw [qX7_vigil_h33_eq, if_pos (Int32.le_refl _), yc_tell1, xb_V1]
    exact ⟨_, _, rfl⟩
  | m + 1, k, v2, v3, v4, I, hm, hI, hw => by
    have a1 : Int32.ofNat k + (1 : Int32) = Int32.ofNat (k + 1) := (Int32.ofNat_add k 1).symm
    obtain ⟨I1, g0, g1, g2, g3, g4, -⟩ := yS21 (d := d) (J := J) hn hc hq hR hL hI hw
    have g2' : (I1, J, R).1 3 10 = (yNg n be ca mo wi (yq_s I 21)).1 := g2
    have key : ∀ w0 : Int32, ∃ I' J', qX7_vigil_h68 (d + 5) (Int32.ofNat N) v2 v3 (Int32.ofNat k) w0 (I1, J, R) = some (some (.int (yVI n c be ca mo wi val m (if v2 < w0 then w0 else v2) w0 (yNt n c be ca mo wi val (yq_s I 21)))), I', J', R) := by
      intro w0
      rw [qX7_vigil_h68_eq, ← yVI_cg hn hc m _ w0 _ _ g1 g4]
      by_cases h : v2 < w0
      · rw [if_pos h, if_neg (fun z => by rw [xt_lt] at h; rw [xt_le] at z; omega), qX7_vigil_h87_eq, a1]
        exact yc_vil hN hn hc hq hR hL m (k + 1) _ _ _ I1 (by omega) g3 g4
      · rw [if_neg h, if_pos (by rw [xt_lt] at h; rw [xt_le]; omega), qX7_vigil_h87_eq, a1]
        exact yc_vil hN hn hc hq hR hL m (k + 1) _ _ _ I1 (by omega) g3 g4
    rw [qX7_vigil_h33_eq, if_neg (fun z => by have := (xr_le (by omega) (by omega)).mp z; omega), g0, xb_V1, g2', yVI]
    by_cases h : (yNg n be ca mo wi (yq_s I 21)).1 = 0
    · rw [if_neg (fun z => z h), if_pos h]
      exact key _
    · rw [if_pos h, if_neg h]
      exact key _
theorem yr_vil (hN : N ≤ 60) (hn : n ≤ 8) (hc : c ≤ 8) (hn0 : n0 ≤ 40) (hL : yLv CC T n0 val) : ∀ (m k : Nat) (v2 v3 v4 : Int32) (I : Nat → Nat → Int32) (R : Nat → Nat → Nat), k + m = N → yIr n c n0 be T ca mo wi I R → yq_w c (I 107) → ∃ I' J' R', qX8_vigil_h39 (d + 174) (Int32.ofNat N) v2 v3 v4 (Int32.ofNat k) (I, J, R) = some (some (.int (yVI n c be ca mo wi val m v2 v4 (I 107))), I', J', R')
  | 0, k, v2, v3, v4, I, R, hm, hI, hw => by
    have e : k = N := by omega
    subst e
    rw [qX8_vigil_h39_eq, if_pos (Int32.le_refl _), yr_tell (I := xq_upd I 94 10 0) (n := 0) xu_t (by decide), xb_V1]
    exact ⟨_, _, _, rfl⟩
  | m + 1, k, v2, v3, v4, I, R, hm, hI, hw => by
    have a1 : Int32.ofNat k + (1 : Int32) = Int32.ofNat (k + 1) := (Int32.ofNat_add k 1).symm
    obtain ⟨I1, R1, g0, g1, g2, g3, g4, -⟩ := yS107 (d := d) (J := J) hn hc hn0 hL hI hw
    have g2' : (I1, J, R1).1 94 27 = (yNg n be ca mo wi (I 107)).1 := g2
    have key : ∀ w0 : Int32, ∃ I' J' R', qX8_vigil_h68 (d + 174) (Int32.ofNat N) v2 v3 (Int32.ofNat k) w0 (I1, J, R1) = some (some (.int (yVI n c be ca mo wi val m (if v2 < w0 then w0 else v2) w0 (yNt n c be ca mo wi val (I 107)))), I', J', R') := by
      intro w0
      rw [qX8_vigil_h68_eq, ← yVI_cg hn hc m _ w0 _ _ g1 g4]
      by_cases h : v2 < w0
      · rw [if_pos h, if_pos h, qX8_vigil_h90_eq, a1]
        exact yr_vil hN hn hc hn0 hL m (k + 1) _ _ _ I1 R1 (by omega) g3 g4
      · rw [if_neg h, if_neg h, qX8_vigil_h90_eq, a1]
        exact yr_vil hN hn hc hn0 hL m (k + 1) _ _ _ I1 R1 (by omega) g3 g4
    rw [qX8_vigil_h39_eq, if_neg (fun z => by have := (xr_le (by omega) (by omega)).mp z; omega), g0, xb_V1, g2', yVI]
    by_cases h : (yNg n be ca mo wi (I 107)).1 = 0
    · rw [if_neg (fun z => z h), if_pos h]
      exact key _
    · rw [if_pos h, if_neg h]
      exact key _
theorem yvigilF (hF : yF I) (hB : yBG I) : yRm yBG 6 179 k9X7_vigil 175 296 k9X8_vigil [x] True yF I := by
  refine yObs ym_vigil (by decide +kernel) hF (fun J R hR => ?_)
  obtain ⟨c, n, q, n0, val, hV, l2, l4, hL, hI, hw, hr⟩ := yOpen hF hB
  have v3 := hV.2.2.1
  have v7 := hV.2.2.2.2.2.2.1
  have e0 : (0 : Int32).toInt = 0 := by decide
  have e60 : (60 : Int32).toInt = 60 := by decide
  by_cases hA : 0 ≤ x.toInt ∧ x.toInt ≤ 60
  · obtain ⟨N, rfl, hN⟩ := ynat hA.1 hA.2
    have bN := xt_nat (n := N) (by omega)
    obtain ⟨d1, d2, d3⟩ := yD_c hI hw
    obtain ⟨Ic, Jc, c0⟩ := yc_vil (d := 0) (J := J) (R := R) (N := N) (by omega) v7 v3 l2 hR.1 hL N 0 0 (-1) 0 (yq_cp I 21 15) (Nat.zero_add _) d2 d3
    rw [yVI_cg v7 v3 N 0 0 _ _ d1 d3] at c0
    refine ⟨yVI n c (I 3 8) (I 98) (I 96) (I 97) val N 0 0 (yq_s I 15), ⟨Ic, Jc, R, ?_⟩, fun I1 J' R' g hB1 hR' => ?_⟩
    · show xq_D xqP 6 179 [.ref 0, .int (Int32.ofNat N)] (I, J, R) = _
      rw [qX7_vigil_eq, if_neg (fun z => by rw [xt_lt, bN, e0] at z; omega), if_pos (by rw [xt_le, bN, e60]; omega), yq_c21_15, xb_V1]
      exact c0
    · obtain ⟨Ia, a0, a1, a2, a3, -⟩ := yr_open (d := 173) (J' := J') hr hw g hR'.2.2.1
      obtain ⟨Ir, Jr, Rr, r0⟩ := yr_vil (d := 0) (J := J') (N := N) (by omega) v7 v3 l4 hL N 0 0 (-1) 0 Ia R' (Nat.zero_add _) a2 a3
      rw [yVI_cg v7 v3 N 0 0 _ _ a1 a3] at r0
      refine ⟨Ir, Jr, Rr, ?_⟩
      show xq_D xqP 175 296 [.ref 94, .int (Int32.ofNat N)] (I1, J', R') = _
      have a0' : xq_D xqP 174 246 [.ref 95, .ref 107, .int 0] ((xq_upd (I1, J', R').1 94 11 0), (I1, J', R').2) = some (none, Ia, J', R') := a0
      rw [qX8_vigil_eq, xe_in, xb_I1, e0, e60, if_pos hA, if_pos (by decide), a0', xb_V1]
      exact r0
  · refine ⟨-1, ⟨I, J, R, ?_⟩, fun I1 J' R' g hB1 hR' => ⟨xq_upd I1 94 11 0, J', R', ?_⟩⟩
    · show xq_D xqP 6 179 [.ref 0, .int x] (I, J, R) = _
      rw [qX7_vigil_eq]
      by_cases h : x < 0
      · rw [if_pos h]
      · rw [if_neg h, if_neg (fun z => by rw [xt_lt, e0] at h; rw [xt_le, e60] at z; omega)]
    · show xq_D xqP 175 296 [.ref 94, .int x] (I1, J', R') = _
      rw [qX8_vigil_eq, xe_in, xb_I1, e0, e60, if_neg hA, if_neg (by decide)]
end YU30
