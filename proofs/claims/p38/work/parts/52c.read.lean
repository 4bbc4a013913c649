/-! THE REFERENCE'S READER, with values -/
theorem zon {a : Nat} (h : a < 1000) : (Int32.ofNat a).toInt = (a : Int) := nI_toInt (by omega)
theorem zonB {a : Nat} (h : a < 2147483648) : (Int32.ofNat a).toInt = (a : Int) := nI_toInt (by omega)
theorem zol {n a : Nat} (hn : n < 1000) (ha : a < 1000) : (Int32.ofNat n ≤ Int32.ofNat a) ↔ n ≤ a := by
  rw [Int32.le_iff_toInt_le, zon hn, zon ha]
  omega
theorem zolt {n a : Nat} (hn : n < 1000) (ha : a < 1000) : (Int32.ofNat n < Int32.ofNat a) ↔ n < a := by
  rw [Int32.lt_iff_toInt_lt, zon hn, zon ha]
  omega
theorem zoe {n a : Nat} (hn : n < 1000) (ha : a < 1000) (h : Int32.ofNat n = Int32.ofNat a) : n = a := by
  have h1 := zon hn
  rw [h, zon ha] at h1
  omega
theorem zsuc {a : Nat} (h : a < 1000) : Int32.ofNat a + Int32.ofInt 1 = Int32.ofNat (a + 1) := by
  apply Int32.toInt_inj.mp
  rw [zonB (show a + 1 < 2147483648 by omega), Int32.toInt_add, zon h, show (Int32.ofInt 1).toInt = 1 by decide, zbm (B := 2147483648) (by decide) (by omega) (by omega)]
  omega
theorem zsuc' {a : Nat} (h : a < 1000) : (Int32.ofNat a + Int32.ofInt 1 - Int32.ofInt 1).toInt = (a : Int) := by
  rw [zsuc h, Int32.toInt_sub, zonB (show a + 1 < 2147483648 by omega), show (Int32.ofInt 1).toInt = 1 by decide, zbm (B := 2147483648) (by decide) (by omega) (by omega)]
  omega
theorem zm1 : (Int32.ofInt (-1)).toInt = -1 := by decide
theorem zo00 : Int32.ofInt 0 = Int32.ofNat 0 := by decide
/-- the sign at a place -/
def zhe (G : Nat → Int32) (n t a : Nat) : Int32 := if a < n ∧ a < t then G a &&& Int32.ofInt 255 else Int32.ofInt (-1)
theorem zhe_o {G : Nat → Int32} {n t a : Nat} (h : ¬ (a < n ∧ a < t)) : zhe G n t a = Int32.ofInt (-1) := if_neg h
theorem zhe_i {G : Nat → Int32} {n t a : Nat} (h1 : a < n) (h2 : a < t) : zhe G n t a = G a &&& Int32.ofInt 255 := if_pos ⟨h1, h2⟩
/-- the reader's state -/
def zRr (b : Nat → Nat) (f : Nat → Nat → Value) (n t a : Nat) (U : Int32) : Prop := f 94 12 = .ref (b 99) ∧ f 94 13 = .int (Int32.ofNat n) ∧ f 94 14 = .int (Int32.ofNat t) ∧ f 94 15 = .int (Int32.ofNat a) ∧ f 94 16 = .int U ∧ n ≤ 80 ∧ t ≤ 76 ∧ a ≤ t
section ZREAD
variable {l : Launch} {D : va_G} {tys : List (ClassId × FieldType)} {o : zO} {z : Nat} {b : Nat → Nat} {f : Nat → Nat → Value} {g : Nat → Nat → Int32}
variable {n t a : Nat} {U : Int32}
theorem zr_here (hr : zRr b f n t a U) : zCt l D tys o z zyI b mX8_here 2 300 [.ref (b 94)] f g (fun v f' g' => v = some (.int (zhe (g 99) n t a)) ∧ f = f' ∧ g = g') := by
  refine zCt_of (mr := mX8_here) (by decide) (by decide) (by decide) (show 1 ≤ 1 by decide) rfl rfl ?_
  intro p e s m below meth c0 Q ls ws C hret hv hlv
  replace C : zCx p { frames := 2, cells := 0, slots := 0, locals := 300 } s m ([.ref (b 94)] : List Value).toArray meth c0 D vwCl tys z (zXX o z) zTs RX8 cX8_here 1 "here" := C
  have hlv : lv_has ls 1 [(0, .ref (b 94))] := hlv
  obtain ⟨hR, hL, hT, hA, hU, hn, ht, ha⟩ := id hr
  refine lv_aload_n C.1 C.2.1 (zda zDX8_here 0 rfl rfl) rfl (lv_at hlv 0 rfl) ?_
  refine zV_get C (zda zDX8_here 1 rfl rfl) (show vwCl[8]? = some (RX8, TX8, 51) from rfl) zinX8 (by decide) zw1187 hv zvk94 (show 94 < 126 by decide) rfl (j := 15) hA ?_
  refine lv_aload_n C.1 C.2.1 (zda zDX8_here 4 rfl rfl) rfl (lv_at hlv 0 rfl) ?_
  refine zV_get C (zda zDX8_here 5 rfl rfl) (show vwCl[8]? = some (RX8, TX8, 51) from rfl) zinX8 (by decide) zw1185 hv zvk94 (show 94 < 126 by decide) rfl (j := 13) hL ?_
  refine lv_icmp_ge C.1 C.2.1 (zda zDX8_here 8 rfl rfl) (tgt := 38) (by decide) (fun h8 => ?_) (fun h8 => ?_)
  · rw [zol (by omega) (by omega)] at h8
    refine lv_iconst C.1 C.2.1 (zda zDX8_here 38 rfl rfl) rfl ?_
    exact hret 39 ls (some _) _ _ _ _ _ (Or.inl ⟨_, .int, rfl, rfl, rfl, (zda zDX8_here 39 rfl rfl)⟩) hv (⟨by rw [zhe_o (by omega)], rfl, rfl⟩)
  · rw [zol (by omega) (by omega)] at h8
    refine lv_aload_n C.1 C.2.1 (zda zDX8_here 11 rfl rfl) rfl (lv_at hlv 0 rfl) ?_
    refine zV_get C (zda zDX8_here 12 rfl rfl) (show vwCl[8]? = some (RX8, TX8, 51) from rfl) zinX8 (by decide) zw1187 hv zvk94 (show 94 < 126 by decide) rfl (j := 15) hA ?_
    refine lv_aload_n C.1 C.2.1 (zda zDX8_here 15 rfl rfl) rfl (lv_at hlv 0 rfl) ?_
    refine zV_get C (zda zDX8_here 16 rfl rfl) (show vwCl[8]? = some (RX8, TX8, 51) from rfl) zinX8 (by decide) zw1186 hv zvk94 (show 94 < 126 by decide) rfl (j := 14) hT ?_
    refine lv_icmp_ge C.1 C.2.1 (zda zDX8_here 19 rfl rfl) (tgt := 38) (by decide) (fun h19 => ?_) (fun h19 => ?_)
    · rw [zol (by omega) (by omega)] at h19
      refine lv_iconst C.1 C.2.1 (zda zDX8_here 38 rfl rfl) rfl ?_
      exact hret 39 ls (some _) _ _ _ _ _ (Or.inl ⟨_, .int, rfl, rfl, rfl, (zda zDX8_here 39 rfl rfl)⟩) hv (⟨by rw [zhe_o (by omega)], rfl, rfl⟩)
    · rw [zol (by omega) (by omega)] at h19
      refine lv_aload_n C.1 C.2.1 (zda zDX8_here 22 rfl rfl) rfl (lv_at hlv 0 rfl) ?_
      refine zV_get C (zda zDX8_here 23 rfl rfl) (show vwCl[8]? = some (RX8, TX8, 51) from rfl) zinX8 (by decide) zw1184 hv zvk94 (show 94 < 126 by decide) rfl (j := 12) hR ?_
      refine lv_aload_n C.1 C.2.1 (zda zDX8_here 26 rfl rfl) rfl (lv_at hlv 0 rfl) ?_
      refine zV_get C (zda zDX8_here 27 rfl rfl) (show vwCl[8]? = some (RX8, TX8, 51) from rfl) zinX8 (by decide) zw1187 hv zvk94 (show 94 < 126 by decide) rfl (j := 15) hA ?_
      refine zV_ld3 C (zda zDX8_here 30 rfl rfl) hv zvk99 (show 99 < 126 by decide) (i := a) (zon (by omega)) (by omega) ?_
      refine lv_sipush C.1 C.2.1 (zda zDX8_here 31 rfl rfl) (v := Int32.ofInt 255) (by decide) ?_
      refine lv_iand C.1 C.2.1 (zda zDX8_here 34 rfl rfl) ?_
      refine lv_goto C.1 C.2.1 (zda zDX8_here 35 rfl rfl) (tgt := 39) (by decide) ?_
      exact hret 39 ls (some _) _ _ _ _ _ (Or.inl ⟨_, .int, rfl, rfl, rfl, (zda zDX8_here 39 rfl rfl)⟩) hv (⟨by rw [zhe_i (by omega) (by omega)], rfl, rfl⟩)
theorem zr_fineT (hU : f 94 16 = .int (Int32.ofInt (-1))) : zCt l D tys o z zyI b mX8_fine 2 300 [.ref (b 94)] f g (fun v f' g' => v = some (.int (Int32.ofInt 1)) ∧ f = f' ∧ g = g') := by
  refine zCt_of (mr := mX8_fine) (by decide) (by decide) (by decide) (show 1 ≤ 1 by decide) rfl rfl ?_
  intro p e s m below meth c0 Q ls ws C hret hv hlv
  replace C : zCx p { frames := 2, cells := 0, slots := 0, locals := 300 } s m ([.ref (b 94)] : List Value).toArray meth c0 D vwCl tys z (zXX o z) zTs RX8 cX8_fine 1 "fine" := C
  have hlv : lv_has ls 1 [(0, .ref (b 94))] := hlv
  refine lv_aload_n C.1 C.2.1 (zda zDX8_fine 0 rfl rfl) rfl (lv_at hlv 0 rfl) ?_
  refine zV_get C (zda zDX8_fine 1 rfl rfl) (show vwCl[8]? = some (RX8, TX8, 51) from rfl) zinX8 (by decide) zw1188 hv zvk94 (show 94 < 126 by decide) rfl (j := 16) hU ?_
  refine lv_iconst C.1 C.2.1 (zda zDX8_fine 4 rfl rfl) rfl ?_
  refine lv_icmp_ne C.1 C.2.1 (zda zDX8_fine 5 rfl rfl) (tgt := 12) (by decide) (fun h5 => ?_) (fun h5 => ?_)
  · exact absurd rfl h5
  · refine lv_iconst C.1 C.2.1 (zda zDX8_fine 8 rfl rfl) rfl ?_
    refine lv_goto C.1 C.2.1 (zda zDX8_fine 9 rfl rfl) (tgt := 13) (by decide) ?_
    exact hret 13 ls (some _) _ _ _ _ _ (Or.inl ⟨_, .boolean, rfl, rfl, rfl, (zda zDX8_fine 13 rfl rfl)⟩) hv (⟨rfl, rfl, rfl⟩)
theorem zr_fineF (hU : f 94 16 = .int U) (hN : U ≠ Int32.ofInt (-1)) : zCt l D tys o z zyI b mX8_fine 2 300 [.ref (b 94)] f g (fun v f' g' => v = some (.int (Int32.ofInt 0)) ∧ f = f' ∧ g = g') := by
  refine zCt_of (mr := mX8_fine) (by decide) (by decide) (by decide) (show 1 ≤ 1 by decide) rfl rfl ?_
  intro p e s m below meth c0 Q ls ws C hret hv hlv
  replace C : zCx p { frames := 2, cells := 0, slots := 0, locals := 300 } s m ([.ref (b 94)] : List Value).toArray meth c0 D vwCl tys z (zXX o z) zTs RX8 cX8_fine 1 "fine" := C
  have hlv : lv_has ls 1 [(0, .ref (b 94))] := hlv
  refine lv_aload_n C.1 C.2.1 (zda zDX8_fine 0 rfl rfl) rfl (lv_at hlv 0 rfl) ?_
  refine zV_get C (zda zDX8_fine 1 rfl rfl) (show vwCl[8]? = some (RX8, TX8, 51) from rfl) zinX8 (by decide) zw1188 hv zvk94 (show 94 < 126 by decide) rfl (j := 16) hU ?_
  refine lv_iconst C.1 C.2.1 (zda zDX8_fine 4 rfl rfl) rfl ?_
  refine lv_icmp_ne C.1 C.2.1 (zda zDX8_fine 5 rfl rfl) (tgt := 12) (by decide) (fun h5 => ?_) (fun h5 => ?_)
  · refine lv_iconst C.1 C.2.1 (zda zDX8_fine 12 rfl rfl) rfl ?_
    exact hret 13 ls (some _) _ _ _ _ _ (Or.inl ⟨_, .boolean, rfl, rfl, rfl, (zda zDX8_fine 13 rfl rfl)⟩) hv (⟨rfl, rfl, rfl⟩)
  · exact absurd h5 hN
theorem zr_inT {x lo hi : Int32} (hx1 : ¬ x < lo) (hx2 : ¬ hi < x) : zCt l D tys o z zyI b mX8_in 2 300 [.int x, .int lo, .int hi] f g (fun v f' g' => v = some (.int (Int32.ofInt 1)) ∧ f = f' ∧ g = g') := by
  refine zCt_of (mr := mX8_in) (by decide) (by decide) (by decide) (show 3 ≤ 3 by decide) rfl rfl ?_
  intro p e s m below meth c0 Q ls ws C hret hv hlv
  replace C : zCx p { frames := 2, cells := 0, slots := 0, locals := 300 } s m ([.int x, .int lo, .int hi] : List Value).toArray meth c0 D vwCl tys z (zXX o z) zTs RX8 cX8_in 3 "in" := C
  have hlv : lv_has ls 3 [(0, .int x), (1, .int lo), (2, .int hi)] := hlv
  refine lv_iload_n C.1 C.2.1 (zda zDX8_in 0 rfl rfl) rfl (lv_at hlv 0 rfl) ?_
  refine lv_iload_n C.1 C.2.1 (zda zDX8_in 1 rfl rfl) rfl (lv_at hlv 1 rfl) ?_
  refine lv_icmp_lt C.1 C.2.1 (zda zDX8_in 2 rfl rfl) (tgt := 14) (by decide) (fun h2 => ?_) (fun h2 => ?_)
  · exact absurd h2 hx1
  · refine lv_iload_n C.1 C.2.1 (zda zDX8_in 5 rfl rfl) rfl (lv_at hlv 0 rfl) ?_
    refine lv_iload_n C.1 C.2.1 (zda zDX8_in 6 rfl rfl) rfl (lv_at hlv 2 rfl) ?_
    refine lv_icmp_gt C.1 C.2.1 (zda zDX8_in 7 rfl rfl) (tgt := 14) (by decide) (fun h7 => ?_) (fun h7 => ?_)
    · exact absurd h7 hx2
    · refine lv_iconst C.1 C.2.1 (zda zDX8_in 10 rfl rfl) rfl ?_
      refine lv_goto C.1 C.2.1 (zda zDX8_in 11 rfl rfl) (tgt := 15) (by decide) ?_
      exact hret 15 ls (some _) _ _ _ _ _ (Or.inl ⟨_, .boolean, rfl, rfl, rfl, (zda zDX8_in 15 rfl rfl)⟩) hv (⟨rfl, rfl, rfl⟩)
theorem zr_inF {x lo hi : Int32} (hx1 : ¬ (¬ x < lo ∧ ¬ hi < x)) : zCt l D tys o z zyI b mX8_in 2 300 [.int x, .int lo, .int hi] f g (fun v f' g' => v = some (.int (Int32.ofInt 0)) ∧ f = f' ∧ g = g') := by
  refine zCt_of (mr := mX8_in) (by decide) (by decide) (by decide) (show 3 ≤ 3 by decide) rfl rfl ?_
  intro p e s m below meth c0 Q ls ws C hret hv hlv
  replace C : zCx p { frames := 2, cells := 0, slots := 0, locals := 300 } s m ([.int x, .int lo, .int hi] : List Value).toArray meth c0 D vwCl tys z (zXX o z) zTs RX8 cX8_in 3 "in" := C
  have hlv : lv_has ls 3 [(0, .int x), (1, .int lo), (2, .int hi)] := hlv
  refine lv_iload_n C.1 C.2.1 (zda zDX8_in 0 rfl rfl) rfl (lv_at hlv 0 rfl) ?_
  refine lv_iload_n C.1 C.2.1 (zda zDX8_in 1 rfl rfl) rfl (lv_at hlv 1 rfl) ?_
  refine lv_icmp_lt C.1 C.2.1 (zda zDX8_in 2 rfl rfl) (tgt := 14) (by decide) (fun h2 => ?_) (fun h2 => ?_)
  · refine lv_iconst C.1 C.2.1 (zda zDX8_in 14 rfl rfl) rfl ?_
    exact hret 15 ls (some _) _ _ _ _ _ (Or.inl ⟨_, .boolean, rfl, rfl, rfl, (zda zDX8_in 15 rfl rfl)⟩) hv (⟨rfl, rfl, rfl⟩)
  · refine lv_iload_n C.1 C.2.1 (zda zDX8_in 5 rfl rfl) rfl (lv_at hlv 0 rfl) ?_
    refine lv_iload_n C.1 C.2.1 (zda zDX8_in 6 rfl rfl) rfl (lv_at hlv 2 rfl) ?_
    refine lv_icmp_gt C.1 C.2.1 (zda zDX8_in 7 rfl rfl) (tgt := 14) (by decide) (fun h7 => ?_) (fun h7 => ?_)
    · refine lv_iconst C.1 C.2.1 (zda zDX8_in 14 rfl rfl) rfl ?_
      exact hret 15 ls (some _) _ _ _ _ _ (Or.inl ⟨_, .boolean, rfl, rfl, rfl, (zda zDX8_in 15 rfl rfl)⟩) hv (⟨rfl, rfl, rfl⟩)
    · exact absurd ⟨h2, h7⟩ hx1
theorem zr_faultY {q : Nat} (hU : f 94 16 = .int (Int32.ofInt (-1))) (hq : q ≤ 80) : zCt l D tys o z zyI b mX8_fault 4 400 [.ref (b 94), .int (Int32.ofNat q)] f g (fun v f' g' => v = none ∧ f' = zuv f 94 16 (.int (Int32.ofNat q)) ∧ g = g') := by
  refine zCt_of (mr := mX8_fault) (by decide) (by decide) (by decide) (show 2 ≤ 2 by decide) rfl rfl ?_
  intro p e s m below meth c0 Q ls ws C hret hv hlv
  replace C : zCx p { frames := 4, cells := 0, slots := 0, locals := 400 } s m ([.ref (b 94), .int (Int32.ofNat q)] : List Value).toArray meth c0 D vwCl tys z (zXX o z) zTs RX8 cX8_fault 2 "fault" := C
  have hlv : lv_has ls 2 [(0, .ref (b 94)), (1, .int (Int32.ofNat q))] := hlv
  refine lv_aload_n C.1 C.2.1 (zda zDX8_fault 0 rfl rfl) rfl (lv_at hlv 0 rfl) ?_
  refine zV_callV C (zr_fineT hU) rfl rfl (by decide) (by decide) (show vwCl[8]? = some (RX8, TX8, 51) from rfl) zw1352 zw1349 zw1351 zs98 zw16 (n := 0) (by decide +kernel) (zda zDX8_fault 1 rfl rfl) rfl zvk94 (show 94 < 126 by decide) hv hlv.1 (by show 0 ≤ 8; decide) (Nat.zero_le _) (Nat.zero_le _) (fun v f9 g9 ws H locs hp hv => ?_)
  obtain ⟨rfl, rfl, rfl⟩ := hp
  refine lv_if_eq C.1 C.2.1 (zda zDX8_fault 4 rfl rfl) (tgt := 12) (by decide) (fun h4 => ?_) (fun h4 => ?_)
  · exact absurd h4 (by decide)
  · have hq9 := zon (show q < 1000 by omega)
    refine lv_aload_n C.1 C.2.1 (zda zDX8_fault 7 rfl rfl) rfl (lv_at hlv 0 rfl) ?_
    refine lv_iload_n C.1 C.2.1 (zda zDX8_fault 8 rfl rfl) rfl (lv_at hlv 1 rfl) ?_
    refine zV_puti C (zda zDX8_fault 9 rfl rfl) (show vwCl[8]? = some (RX8, TX8, 51) from rfl) zinX8 tyX8 tyX8_ok nmX8 (j := 16) (by decide) zw1188 rfl (by decide +kernel) hv zvk94 (show 94 < 126 by decide) rfl ⟨by show (-1 : Int) ≤ _; omega, by show _ ≤ (80 : Int); omega⟩ (fun ws H locs hv => ?_)
    exact hret 12 ls none _ _ _ _ _ ⟨rfl, (zda zDX8_fault 12 rfl rfl)⟩ hv (⟨rfl, rfl, rfl⟩)
theorem zr_faultN {x : Int32} (hU : f 94 16 = .int U) (hN : U ≠ Int32.ofInt (-1)) : zCt l D tys o z zyI b mX8_fault 4 400 [.ref (b 94), .int x] f g (fun v f' g' => v = none ∧ f = f' ∧ g = g') := by
  refine zCt_of (mr := mX8_fault) (by decide) (by decide) (by decide) (show 2 ≤ 2 by decide) rfl rfl ?_
  intro p e s m below meth c0 Q ls ws C hret hv hlv
  replace C : zCx p { frames := 4, cells := 0, slots := 0, locals := 400 } s m ([.ref (b 94), .int x] : List Value).toArray meth c0 D vwCl tys z (zXX o z) zTs RX8 cX8_fault 2 "fault" := C
  have hlv : lv_has ls 2 [(0, .ref (b 94)), (1, .int x)] := hlv
  refine lv_aload_n C.1 C.2.1 (zda zDX8_fault 0 rfl rfl) rfl (lv_at hlv 0 rfl) ?_
  refine zV_callV C (zr_fineF hU hN) rfl rfl (by decide) (by decide) (show vwCl[8]? = some (RX8, TX8, 51) from rfl) zw1352 zw1349 zw1351 zs98 zw16 (n := 0) (by decide +kernel) (zda zDX8_fault 1 rfl rfl) rfl zvk94 (show 94 < 126 by decide) hv hlv.1 (by show 0 ≤ 8; decide) (Nat.zero_le _) (Nat.zero_le _) (fun v f9 g9 ws H locs hp hv => ?_)
  obtain ⟨rfl, rfl, rfl⟩ := hp
  refine lv_if_eq C.1 C.2.1 (zda zDX8_fault 4 rfl rfl) (tgt := 12) (by decide) (fun h4 => ?_) (fun h4 => ?_)
  · exact hret 12 ls none _ _ _ _ _ ⟨rfl, (zda zDX8_fault 12 rfl rfl)⟩ hv (⟨rfl, rfl, rfl⟩)
  · exact absurd rfl h4
theorem zr_passF {c : Int32} (hr : zRr b f n t a U) (hN : U ≠ Int32.ofInt (-1)) : zCt l D tys o z zyI b mX8_passes 6 600 [.ref (b 94), .int c] f g (fun v f' g' => v = some (.int (Int32.ofInt 0)) ∧ f = f' ∧ g = g') := by
  refine zCt_of (mr := mX8_passes) (by decide) (by decide) (by decide) (show 2 ≤ 2 by decide) rfl rfl ?_
  intro p e s m below meth c0 Q ls ws C hret hv hlv
  replace C : zCx p { frames := 6, cells := 0, slots := 0, locals := 600 } s m ([.ref (b 94), .int c] : List Value).toArray meth c0 D vwCl tys z (zXX o z) zTs RX8 cX8_passes 2 "passes" := C
  have hlv : lv_has ls 2 [(0, .ref (b 94)), (1, .int c)] := hlv
  obtain ⟨hR, hL, hT, hA, hU, hn, ht, ha⟩ := id hr
  refine lv_aload_n C.1 C.2.1 (zda zDX8_passes 0 rfl rfl) rfl (lv_at hlv 0 rfl) ?_
  refine zV_callV C (zr_fineF hU hN) rfl rfl (by decide) (by decide) (show vwCl[8]? = some (RX8, TX8, 51) from rfl) zw1352 zw1349 zw1351 zs98 zw16 (n := 0) (by decide +kernel) (zda zDX8_passes 1 rfl rfl) rfl zvk94 (show 94 < 126 by decide) hv hlv.1 (by show 0 ≤ 8; decide) (Nat.zero_le _) (Nat.zero_le _) (fun v f9 g9 ws H locs hp hv => ?_)
  obtain ⟨rfl, rfl, rfl⟩ := hp
  refine lv_if_eq C.1 C.2.1 (zda zDX8_passes 4 rfl rfl) (tgt := 15) (by decide) (fun h4 => ?_) (fun h4 => ?_)
  · refine lv_iconst C.1 C.2.1 (zda zDX8_passes 15 rfl rfl) rfl ?_
    exact hret 16 ls (some _) _ _ _ _ _ (Or.inl ⟨_, .boolean, rfl, rfl, rfl, (zda zDX8_passes 16 rfl rfl)⟩) hv (⟨rfl, rfl, rfl⟩)
  · exact absurd rfl h4
theorem zr_passN {c : Int32} (hr : zRr b f n t a (Int32.ofInt (-1))) (hc : zhe (g 99) n t a ≠ c) : zCt l D tys o z zyI b mX8_passes 6 600 [.ref (b 94), .int c] f g (fun v f' g' => v = some (.int (Int32.ofInt 0)) ∧ f = f' ∧ g = g') := by
  refine zCt_of (mr := mX8_passes) (by decide) (by decide) (by decide) (show 2 ≤ 2 by decide) rfl rfl ?_
  intro p e s m below meth c0 Q ls ws C hret hv hlv
  replace C : zCx p { frames := 6, cells := 0, slots := 0, locals := 600 } s m ([.ref (b 94), .int c] : List Value).toArray meth c0 D vwCl tys z (zXX o z) zTs RX8 cX8_passes 2 "passes" := C
  have hlv : lv_has ls 2 [(0, .ref (b 94)), (1, .int c)] := hlv
  obtain ⟨hR, hL, hT, hA, hU, hn, ht, ha⟩ := id hr
  refine lv_aload_n C.1 C.2.1 (zda zDX8_passes 0 rfl rfl) rfl (lv_at hlv 0 rfl) ?_
  refine zV_callV C (zr_fineT hU) rfl rfl (by decide) (by decide) (show vwCl[8]? = some (RX8, TX8, 51) from rfl) zw1352 zw1349 zw1351 zs98 zw16 (n := 0) (by decide +kernel) (zda zDX8_passes 1 rfl rfl) rfl zvk94 (show 94 < 126 by decide) hv hlv.1 (by show 0 ≤ 8; decide) (Nat.zero_le _) (Nat.zero_le _) (fun v f9 g9 ws H locs hp hv => ?_)
  obtain ⟨rfl, rfl, rfl⟩ := hp
  refine lv_if_eq C.1 C.2.1 (zda zDX8_passes 4 rfl rfl) (tgt := 15) (by decide) (fun h4 => ?_) (fun h4 => ?_)
  · exact absurd h4 (by decide)
  · refine lv_aload_n C.1 C.2.1 (zda zDX8_passes 7 rfl rfl) rfl (lv_at hlv 0 rfl) ?_
    refine zV_callV C (zr_here hr) rfl rfl (by decide) (by decide) (show vwCl[8]? = some (RX8, TX8, 51) from rfl) zw1368 zw1365 zw1367 zs102 zw16 (n := 0) (by decide +kernel) (zda zDX8_passes 8 rfl rfl) rfl zvk94 (show 94 < 126 by decide) hv hlv.1 (by show 0 ≤ 8; decide) (Nat.zero_le _) (Nat.zero_le _) (fun v f9 g9 ws H locs hp hv => ?_)
    obtain ⟨rfl, rfl, rfl⟩ := hp
    refine lv_iload_n C.1 C.2.1 (zda zDX8_passes 11 rfl rfl) rfl (lv_at hlv 1 rfl) ?_
    refine lv_icmp_eq C.1 C.2.1 (zda zDX8_passes 12 rfl rfl) (tgt := 17) (by decide) (fun h12 => ?_) (fun h12 => ?_)
    · exact absurd h12 hc
    · refine lv_iconst C.1 C.2.1 (zda zDX8_passes 15 rfl rfl) rfl ?_
      exact hret 16 ls (some _) _ _ _ _ _ (Or.inl ⟨_, .boolean, rfl, rfl, rfl, (zda zDX8_passes 16 rfl rfl)⟩) hv (⟨rfl, rfl, rfl⟩)
theorem zr_passY {c : Int32} (hr : zRr b f n t a (Int32.ofInt (-1))) (hc : zhe (g 99) n t a = c) (h0 : c ≠ Int32.ofInt (-1)) : zCt l D tys o z zyI b mX8_passes 6 600 [.ref (b 94), .int c] f g (fun v f' g' => v = some (.int (Int32.ofInt 1)) ∧ f' = zuv f 94 15 (.int (Int32.ofNat (a + 1))) ∧ g = g') := by
  refine zCt_of (mr := mX8_passes) (by decide) (by decide) (by decide) (show 2 ≤ 2 by decide) rfl rfl ?_
  intro p e s m below meth c0 Q ls ws C hret hv hlv
  replace C : zCx p { frames := 6, cells := 0, slots := 0, locals := 600 } s m ([.ref (b 94), .int c] : List Value).toArray meth c0 D vwCl tys z (zXX o z) zTs RX8 cX8_passes 2 "passes" := C
  have hlv : lv_has ls 2 [(0, .ref (b 94)), (1, .int c)] := hlv
  obtain ⟨hR, hL, hT, hA, hU, hn, ht, ha⟩ := id hr
  refine lv_aload_n C.1 C.2.1 (zda zDX8_passes 0 rfl rfl) rfl (lv_at hlv 0 rfl) ?_
  refine zV_callV C (zr_fineT hU) rfl rfl (by decide) (by decide) (show vwCl[8]? = some (RX8, TX8, 51) from rfl) zw1352 zw1349 zw1351 zs98 zw16 (n := 0) (by decide +kernel) (zda zDX8_passes 1 rfl rfl) rfl zvk94 (show 94 < 126 by decide) hv hlv.1 (by show 0 ≤ 8; decide) (Nat.zero_le _) (Nat.zero_le _) (fun v f9 g9 ws H locs hp hv => ?_)
  obtain ⟨rfl, rfl, rfl⟩ := hp
  refine lv_if_eq C.1 C.2.1 (zda zDX8_passes 4 rfl rfl) (tgt := 15) (by decide) (fun h4 => ?_) (fun h4 => ?_)
  · exact absurd h4 (by decide)
  · refine lv_aload_n C.1 C.2.1 (zda zDX8_passes 7 rfl rfl) rfl (lv_at hlv 0 rfl) ?_
    refine zV_callV C (zr_here hr) rfl rfl (by decide) (by decide) (show vwCl[8]? = some (RX8, TX8, 51) from rfl) zw1368 zw1365 zw1367 zs102 zw16 (n := 0) (by decide +kernel) (zda zDX8_passes 8 rfl rfl) rfl zvk94 (show 94 < 126 by decide) hv hlv.1 (by show 0 ≤ 8; decide) (Nat.zero_le _) (Nat.zero_le _) (fun v f9 g9 ws H locs hp hv => ?_)
    obtain ⟨rfl, rfl, rfl⟩ := hp
    refine lv_iload_n C.1 C.2.1 (zda zDX8_passes 11 rfl rfl) rfl (lv_at hlv 1 rfl) ?_
    refine lv_icmp_eq C.1 C.2.1 (zda zDX8_passes 12 rfl rfl) (tgt := 17) (by decide) (fun h12 => ?_) (fun h12 => ?_)
    · have hat : a < t := by
        rcases Nat.lt_or_ge a t with h | h
        · exact h
        · exact absurd ((zhe_o (by omega)).symm.trans hc) (fun q => h0 q.symm)
      have ha1 := zon (show a + 1 < 1000 by omega)
      refine lv_aload_n C.1 C.2.1 (zda zDX8_passes 17 rfl rfl) rfl (lv_at hlv 0 rfl) ?_
      refine lv_dup C.1 C.2.1 (zda zDX8_passes 18 rfl rfl) rfl ?_
      refine zV_get C (zda zDX8_passes 19 rfl rfl) (show vwCl[8]? = some (RX8, TX8, 51) from rfl) zinX8 (by decide) zw1187 hv zvk94 (show 94 < 126 by decide) rfl (j := 15) hA ?_
      refine lv_iconst C.1 C.2.1 (zda zDX8_passes 22 rfl rfl) rfl ?_
      refine lv_iadd C.1 C.2.1 (zda zDX8_passes 23 rfl rfl) ?_
      refine zV_puti C (zda zDX8_passes 24 rfl rfl) (show vwCl[8]? = some (RX8, TX8, 51) from rfl) zinX8 tyX8 tyX8_ok nmX8 (j := 15) (by decide) zw1187 rfl (by decide +kernel) hv zvk94 (show 94 < 126 by decide) rfl ⟨by show (0 : Int) ≤ _; (rw [zsuc (by omega)]; omega), by show _ ≤ (76 : Int); (rw [zsuc (by omega)]; omega)⟩ (fun ws H locs hv => ?_)
      refine lv_iconst C.1 C.2.1 (zda zDX8_passes 27 rfl rfl) rfl ?_
      exact hret 28 ls (some _) _ _ _ _ _ (Or.inl ⟨_, .boolean, rfl, rfl, rfl, (zda zDX8_passes 28 rfl rfl)⟩) hv (⟨rfl, by rw [zsuc (by omega)], rfl⟩)
    · exact absurd hc h12
theorem zr_oneF {c k : Int32} (hr : zRr b f n t a U) (hN : U ≠ Int32.ofInt (-1)) : zCt l D tys o z zyI b mX8_oneOf 8 800 [.ref (b 94), .int c, .int k] f g (fun v f' g' => v = some (.int (Int32.ofInt 0)) ∧ f = f' ∧ g = g') := by
  refine zCt_of (mr := mX8_oneOf) (by decide) (by decide) (by decide) (show 3 ≤ 3 by decide) rfl rfl ?_
  intro p e s m below meth c0 Q ls ws C hret hv hlv
  replace C : zCx p { frames := 8, cells := 0, slots := 0, locals := 800 } s m ([.ref (b 94), .int c, .int k] : List Value).toArray meth c0 D vwCl tys z (zXX o z) zTs RX8 cX8_oneOf 3 "oneOf" := C
  have hlv : lv_has ls 3 [(0, .ref (b 94)), (1, .int c), (2, .int k)] := hlv
  obtain ⟨hR, hL, hT, hA, hU, hn, ht, ha⟩ := id hr
  refine lv_aload_n C.1 C.2.1 (zda zDX8_oneOf 0 rfl rfl) rfl (lv_at hlv 0 rfl) ?_
  refine zV_callV C (zr_fineF hU hN) rfl rfl (by decide) (by decide) (show vwCl[8]? = some (RX8, TX8, 51) from rfl) zw1352 zw1349 zw1351 zs98 zw16 (n := 0) (by decide +kernel) (zda zDX8_oneOf 1 rfl rfl) rfl zvk94 (show 94 < 126 by decide) hv hlv.1 (by show 0 ≤ 8; decide) (Nat.zero_le _) (Nat.zero_le _) (fun v f9 g9 ws H locs hp hv => ?_)
  obtain ⟨rfl, rfl, rfl⟩ := hp
  refine lv_if_ne C.1 C.2.1 (zda zDX8_oneOf 4 rfl rfl) (tgt := 9) (by decide) (fun h4 => ?_) (fun h4 => ?_)
  · exact absurd rfl h4
  · refine lv_iconst C.1 C.2.1 (zda zDX8_oneOf 7 rfl rfl) rfl ?_
    exact hret 8 ls (some _) _ _ _ _ _ (Or.inl ⟨_, .int, rfl, rfl, rfl, (zda zDX8_oneOf 8 rfl rfl)⟩) hv (⟨rfl, rfl, rfl⟩)
theorem zr_oneN {c k : Int32} (hr : zRr b f n t a (Int32.ofInt (-1))) (hc : ¬ (¬ zhe (g 99) n t a < c ∧ ¬ c + k - Int32.ofInt 1 < zhe (g 99) n t a)) : zCt l D tys o z zyI b mX8_oneOf 8 800 [.ref (b 94), .int c, .int k] f g (fun v f' g' => v = some (.int (Int32.ofInt 0)) ∧ f' = zuv f 94 16 (.int (Int32.ofNat a)) ∧ g = g') := by
  refine zCt_of (mr := mX8_oneOf) (by decide) (by decide) (by decide) (show 3 ≤ 3 by decide) rfl rfl ?_
  intro p e s m below meth c0 Q ls ws C hret hv hlv
  replace C : zCx p { frames := 8, cells := 0, slots := 0, locals := 800 } s m ([.ref (b 94), .int c, .int k] : List Value).toArray meth c0 D vwCl tys z (zXX o z) zTs RX8 cX8_oneOf 3 "oneOf" := C
  have hlv : lv_has ls 3 [(0, .ref (b 94)), (1, .int c), (2, .int k)] := hlv
  obtain ⟨hR, hL, hT, hA, hU, hn, ht, ha⟩ := id hr
  refine lv_aload_n C.1 C.2.1 (zda zDX8_oneOf 0 rfl rfl) rfl (lv_at hlv 0 rfl) ?_
  refine zV_callV C (zr_fineT hU) rfl rfl (by decide) (by decide) (show vwCl[8]? = some (RX8, TX8, 51) from rfl) zw1352 zw1349 zw1351 zs98 zw16 (n := 0) (by decide +kernel) (zda zDX8_oneOf 1 rfl rfl) rfl zvk94 (show 94 < 126 by decide) hv hlv.1 (by show 0 ≤ 8; decide) (Nat.zero_le _) (Nat.zero_le _) (fun v f9 g9 ws H locs hp hv => ?_)
  obtain ⟨rfl, rfl, rfl⟩ := hp
  refine lv_if_ne C.1 C.2.1 (zda zDX8_oneOf 4 rfl rfl) (tgt := 9) (by decide) (fun h4 => ?_) (fun h4 => ?_)
  · refine lv_aload_n C.1 C.2.1 (zda zDX8_oneOf 9 rfl rfl) rfl (lv_at hlv 0 rfl) ?_
    refine zV_callV C (zr_here hr) rfl rfl (by decide) (by decide) (show vwCl[8]? = some (RX8, TX8, 51) from rfl) zw1368 zw1365 zw1367 zs102 zw16 (n := 0) (by decide +kernel) (zda zDX8_oneOf 10 rfl rfl) rfl zvk94 (show 94 < 126 by decide) hv hlv.1 (by show 0 ≤ 8; decide) (Nat.zero_le _) (Nat.zero_le _) (fun v f9 g9 ws H locs hp hv => ?_)
    obtain ⟨rfl, rfl, rfl⟩ := hp
    refine lv_iload_n C.1 C.2.1 (zda zDX8_oneOf 13 rfl rfl) rfl (lv_at hlv 1 rfl) ?_
    refine lv_iload_n C.1 C.2.1 (zda zDX8_oneOf 14 rfl rfl) rfl (lv_at hlv 1 rfl) ?_
    refine lv_iload_n C.1 C.2.1 (zda zDX8_oneOf 15 rfl rfl) rfl (lv_at hlv 2 rfl) ?_
    refine lv_iadd C.1 C.2.1 (zda zDX8_oneOf 16 rfl rfl) ?_
    refine lv_iconst C.1 C.2.1 (zda zDX8_oneOf 17 rfl rfl) rfl ?_
    refine lv_isub C.1 C.2.1 (zda zDX8_oneOf 18 rfl rfl) ?_
    refine zV_callS C (zr_inF hc) rfl rfl (by decide) (by decide) zw1336 zw1334 zw1335 zw16 (n := 3) (by decide +kernel) (zda zDX8_oneOf 19 rfl rfl) rfl hv hlv.1 (by show 0 ≤ 8; decide) (Nat.zero_le _) (Nat.zero_le _) (fun v f9 g9 ws H locs hp hv => ?_)
    obtain ⟨rfl, rfl, rfl⟩ := hp
    refine lv_if_ne C.1 C.2.1 (zda zDX8_oneOf 22 rfl rfl) (tgt := 35) (by decide) (fun h22 => ?_) (fun h22 => ?_)
    · exact absurd rfl h22
    · refine lv_aload_n C.1 C.2.1 (zda zDX8_oneOf 25 rfl rfl) rfl (lv_at hlv 0 rfl) ?_
      refine lv_aload_n C.1 C.2.1 (zda zDX8_oneOf 26 rfl rfl) rfl (lv_at hlv 0 rfl) ?_
      refine zV_get C (zda zDX8_oneOf 27 rfl rfl) (show vwCl[8]? = some (RX8, TX8, 51) from rfl) zinX8 (by decide) zw1187 hv zvk94 (show 94 < 126 by decide) rfl (j := 15) hA ?_
      refine zV_callV C (zr_faultY hU (by omega)) rfl rfl (by decide) (by decide) (show vwCl[8]? = some (RX8, TX8, 51) from rfl) zw1356 zw1353 zw1355 zs99 zw16 (n := 1) (by decide +kernel) (zda zDX8_oneOf 30 rfl rfl) rfl zvk94 (show 94 < 126 by decide) hv hlv.1 (by show 0 ≤ 8; decide) (Nat.zero_le _) (Nat.zero_le _) (fun v f9 g9 ws H locs hp hv => ?_)
      obtain ⟨rfl, rfl, rfl⟩ := hp
      refine lv_iconst C.1 C.2.1 (zda zDX8_oneOf 33 rfl rfl) rfl ?_
      exact hret 34 ls (some _) _ _ _ _ _ (Or.inl ⟨_, .int, rfl, rfl, rfl, (zda zDX8_oneOf 34 rfl rfl)⟩) hv (⟨rfl, rfl, rfl⟩)
  · exact absurd h4 (by decide)
theorem zr_oneY {c k : Int32} (hr : zRr b f n t a (Int32.ofInt (-1))) (hc : ¬ zhe (g 99) n t a < c ∧ ¬ c + k - Int32.ofInt 1 < zhe (g 99) n t a) (h0 : Int32.ofInt (-1) < c) : zCt l D tys o z zyI b mX8_oneOf 8 800 [.ref (b 94), .int c, .int k] f g (fun v f' g' => v = some (.int (g 99 a - c)) ∧ f' = zuv f 94 15 (.int (Int32.ofNat (a + 1))) ∧ g = g') := by
  refine zCt_of (mr := mX8_oneOf) (by decide) (by decide) (by decide) (show 3 ≤ 3 by decide) rfl rfl ?_
  intro p e s m below meth c0 Q ls ws C hret hv hlv
  replace C : zCx p { frames := 8, cells := 0, slots := 0, locals := 800 } s m ([.ref (b 94), .int c, .int k] : List Value).toArray meth c0 D vwCl tys z (zXX o z) zTs RX8 cX8_oneOf 3 "oneOf" := C
  have hlv : lv_has ls 3 [(0, .ref (b 94)), (1, .int c), (2, .int k)] := hlv
  obtain ⟨hR, hL, hT, hA, hU, hn, ht, ha⟩ := id hr
  refine lv_aload_n C.1 C.2.1 (zda zDX8_oneOf 0 rfl rfl) rfl (lv_at hlv 0 rfl) ?_
  refine zV_callV C (zr_fineT hU) rfl rfl (by decide) (by decide) (show vwCl[8]? = some (RX8, TX8, 51) from rfl) zw1352 zw1349 zw1351 zs98 zw16 (n := 0) (by decide +kernel) (zda zDX8_oneOf 1 rfl rfl) rfl zvk94 (show 94 < 126 by decide) hv hlv.1 (by show 0 ≤ 8; decide) (Nat.zero_le _) (Nat.zero_le _) (fun v f9 g9 ws H locs hp hv => ?_)
  obtain ⟨rfl, rfl, rfl⟩ := hp
  refine lv_if_ne C.1 C.2.1 (zda zDX8_oneOf 4 rfl rfl) (tgt := 9) (by decide) (fun h4 => ?_) (fun h4 => ?_)
  · refine lv_aload_n C.1 C.2.1 (zda zDX8_oneOf 9 rfl rfl) rfl (lv_at hlv 0 rfl) ?_
    refine zV_callV C (zr_here hr) rfl rfl (by decide) (by decide) (show vwCl[8]? = some (RX8, TX8, 51) from rfl) zw1368 zw1365 zw1367 zs102 zw16 (n := 0) (by decide +kernel) (zda zDX8_oneOf 10 rfl rfl) rfl zvk94 (show 94 < 126 by decide) hv hlv.1 (by show 0 ≤ 8; decide) (Nat.zero_le _) (Nat.zero_le _) (fun v f9 g9 ws H locs hp hv => ?_)
    obtain ⟨rfl, rfl, rfl⟩ := hp
    refine lv_iload_n C.1 C.2.1 (zda zDX8_oneOf 13 rfl rfl) rfl (lv_at hlv 1 rfl) ?_
    refine lv_iload_n C.1 C.2.1 (zda zDX8_oneOf 14 rfl rfl) rfl (lv_at hlv 1 rfl) ?_
    refine lv_iload_n C.1 C.2.1 (zda zDX8_oneOf 15 rfl rfl) rfl (lv_at hlv 2 rfl) ?_
    refine lv_iadd C.1 C.2.1 (zda zDX8_oneOf 16 rfl rfl) ?_
    refine lv_iconst C.1 C.2.1 (zda zDX8_oneOf 17 rfl rfl) rfl ?_
    refine lv_isub C.1 C.2.1 (zda zDX8_oneOf 18 rfl rfl) ?_
    refine zV_callS C (zr_inT hc.1 hc.2) rfl rfl (by decide) (by decide) zw1336 zw1334 zw1335 zw16 (n := 3) (by decide +kernel) (zda zDX8_oneOf 19 rfl rfl) rfl hv hlv.1 (by show 0 ≤ 8; decide) (Nat.zero_le _) (Nat.zero_le _) (fun v f9 g9 ws H locs hp hv => ?_)
    obtain ⟨rfl, rfl, rfl⟩ := hp
    refine lv_if_ne C.1 C.2.1 (zda zDX8_oneOf 22 rfl rfl) (tgt := 35) (by decide) (fun h22 => ?_) (fun h22 => ?_)
    · have hat : a < t := by
        rcases Nat.lt_or_ge a t with h | h
        · exact h
        · exact absurd hc.1 (by rw [zhe_o (by omega)]; exact fun q => q h0)
      have ha1 := zon (show a + 1 < 1000 by omega)
      refine lv_aload_n C.1 C.2.1 (zda zDX8_oneOf 35 rfl rfl) rfl (lv_at hlv 0 rfl) ?_
      refine lv_dup C.1 C.2.1 (zda zDX8_oneOf 36 rfl rfl) rfl ?_
      refine zV_get C (zda zDX8_oneOf 37 rfl rfl) (show vwCl[8]? = some (RX8, TX8, 51) from rfl) zinX8 (by decide) zw1187 hv zvk94 (show 94 < 126 by decide) rfl (j := 15) hA ?_
      refine lv_iconst C.1 C.2.1 (zda zDX8_oneOf 40 rfl rfl) rfl ?_
      refine lv_iadd C.1 C.2.1 (zda zDX8_oneOf 41 rfl rfl) ?_
      refine zV_puti C (zda zDX8_oneOf 42 rfl rfl) (show vwCl[8]? = some (RX8, TX8, 51) from rfl) zinX8 tyX8 tyX8_ok nmX8 (j := 15) (by decide) zw1187 rfl (by decide +kernel) hv zvk94 (show 94 < 126 by decide) rfl ⟨by show (0 : Int) ≤ _; (rw [zsuc (by omega)]; omega), by show _ ≤ (76 : Int); (rw [zsuc (by omega)]; omega)⟩ (fun ws H locs hv => ?_)
      refine lv_aload_n C.1 C.2.1 (zda zDX8_oneOf 45 rfl rfl) rfl (lv_at hlv 0 rfl) ?_
      refine zV_get C (zda zDX8_oneOf 46 rfl rfl) (show vwCl[8]? = some (RX8, TX8, 51) from rfl) zinX8 (by decide) zw1184 hv zvk94 (show 94 < 126 by decide) rfl (j := 12) hR ?_
      refine lv_aload_n C.1 C.2.1 (zda zDX8_oneOf 49 rfl rfl) rfl (lv_at hlv 0 rfl) ?_
      refine zV_get C (zda zDX8_oneOf 50 rfl rfl) (show vwCl[8]? = some (RX8, TX8, 51) from rfl) zinX8 (by decide) zw1187 hv zvk94 (show 94 < 126 by decide) rfl (j := 15) rfl ?_
      refine lv_iconst C.1 C.2.1 (zda zDX8_oneOf 53 rfl rfl) rfl ?_
      refine lv_isub C.1 C.2.1 (zda zDX8_oneOf 54 rfl rfl) ?_
      refine zV_ld3 C (zda zDX8_oneOf 55 rfl rfl) hv zvk99 (show 99 < 126 by decide) (i := a) (zsuc' (by omega)) (by omega) ?_
      refine lv_iload_n C.1 C.2.1 (zda zDX8_oneOf 56 rfl rfl) rfl (lv_at hlv 1 rfl) ?_
      refine lv_isub C.1 C.2.1 (zda zDX8_oneOf 57 rfl rfl) ?_
      exact hret 58 ls (some _) _ _ _ _ _ (Or.inl ⟨_, .int, rfl, rfl, rfl, (zda zDX8_oneOf 58 rfl rfl)⟩) hv (⟨rfl, by rw [zsuc (by omega)], rfl⟩)
    · exact absurd h22 (by decide)
  · exact absurd h4 (by decide)
theorem zr_right1 (hr : zRr b f n t a (Int32.ofInt (-1))) (hna : n ≤ a) : zCt l D tys o z zyI b mX8_wasRight 6 600 [.ref (b 94)] f g (fun v f' g' => v = some (.int (Int32.ofInt 1)) ∧ f = f' ∧ g = g') := by
  refine zCt_of (mr := mX8_wasRight) (by decide) (by decide) (by decide) (show 1 ≤ 1 by decide) rfl rfl ?_
  intro p e s m below meth c0 Q ls ws C hret hv hlv
  replace C : zCx p { frames := 6, cells := 0, slots := 0, locals := 600 } s m ([.ref (b 94)] : List Value).toArray meth c0 D vwCl tys z (zXX o z) zTs RX8 cX8_wasRight 1 "wasRight" := C
  have hlv : lv_has ls 1 [(0, .ref (b 94))] := hlv
  obtain ⟨hR, hL, hT, hA, hU, hn, ht, ha⟩ := id hr
  refine lv_aload_n C.1 C.2.1 (zda zDX8_wasRight 0 rfl rfl) rfl (lv_at hlv 0 rfl) ?_
  refine zV_get C (zda zDX8_wasRight 1 rfl rfl) (show vwCl[8]? = some (RX8, TX8, 51) from rfl) zinX8 (by decide) zw1187 hv zvk94 (show 94 < 126 by decide) rfl (j := 15) hA ?_
  refine lv_aload_n C.1 C.2.1 (zda zDX8_wasRight 4 rfl rfl) rfl (lv_at hlv 0 rfl) ?_
  refine zV_get C (zda zDX8_wasRight 5 rfl rfl) (show vwCl[8]? = some (RX8, TX8, 51) from rfl) zinX8 (by decide) zw1185 hv zvk94 (show 94 < 126 by decide) rfl (j := 13) hL ?_
  refine lv_icmp_ge C.1 C.2.1 (zda zDX8_wasRight 8 rfl rfl) (tgt := 19) (by decide) (fun h8 => ?_) (fun h8 => ?_)
  · rw [zol (by omega) (by omega)] at h8
    refine lv_aload_n C.1 C.2.1 (zda zDX8_wasRight 19 rfl rfl) rfl (lv_at hlv 0 rfl) ?_
    refine zV_callV C (zr_fineT hU) rfl rfl (by decide) (by decide) (show vwCl[8]? = some (RX8, TX8, 51) from rfl) zw1352 zw1349 zw1351 zs98 zw16 (n := 0) (by decide +kernel) (zda zDX8_wasRight 20 rfl rfl) rfl zvk94 (show 94 < 126 by decide) hv hlv.1 (by show 0 ≤ 8; decide) (Nat.zero_le _) (Nat.zero_le _) (fun v f9 g9 ws H locs hp hv => ?_)
    obtain ⟨rfl, rfl, rfl⟩ := hp
    exact hret 23 ls (some _) _ _ _ _ _ (Or.inl ⟨_, .boolean, rfl, rfl, rfl, (zda zDX8_wasRight 23 rfl rfl)⟩) hv (⟨rfl, rfl, rfl⟩)
  · rw [zol (by omega) (by omega)] at h8
    omega
theorem zr_right2 (hr : zRr b f n t a (Int32.ofInt (-1))) (hna : a < n) : zCt l D tys o z zyI b mX8_wasRight 6 600 [.ref (b 94)] f g (fun v f' g' => v = some (.int (Int32.ofInt 0)) ∧ f' = zuv f 94 16 (.int (Int32.ofNat a)) ∧ g = g') := by
  refine zCt_of (mr := mX8_wasRight) (by decide) (by decide) (by decide) (show 1 ≤ 1 by decide) rfl rfl ?_
  intro p e s m below meth c0 Q ls ws C hret hv hlv
  replace C : zCx p { frames := 6, cells := 0, slots := 0, locals := 600 } s m ([.ref (b 94)] : List Value).toArray meth c0 D vwCl tys z (zXX o z) zTs RX8 cX8_wasRight 1 "wasRight" := C
  have hlv : lv_has ls 1 [(0, .ref (b 94))] := hlv
  obtain ⟨hR, hL, hT, hA, hU, hn, ht, ha⟩ := id hr
  refine lv_aload_n C.1 C.2.1 (zda zDX8_wasRight 0 rfl rfl) rfl (lv_at hlv 0 rfl) ?_
  refine zV_get C (zda zDX8_wasRight 1 rfl rfl) (show vwCl[8]? = some (RX8, TX8, 51) from rfl) zinX8 (by decide) zw1187 hv zvk94 (show 94 < 126 by decide) rfl (j := 15) hA ?_
  refine lv_aload_n C.1 C.2.1 (zda zDX8_wasRight 4 rfl rfl) rfl (lv_at hlv 0 rfl) ?_
  refine zV_get C (zda zDX8_wasRight 5 rfl rfl) (show vwCl[8]? = some (RX8, TX8, 51) from rfl) zinX8 (by decide) zw1185 hv zvk94 (show 94 < 126 by decide) rfl (j := 13) hL ?_
  refine lv_icmp_ge C.1 C.2.1 (zda zDX8_wasRight 8 rfl rfl) (tgt := 19) (by decide) (fun h8 => ?_) (fun h8 => ?_)
  · rw [zol (by omega) (by omega)] at h8
    omega
  · rw [zol (by omega) (by omega)] at h8
    refine lv_aload_n C.1 C.2.1 (zda zDX8_wasRight 11 rfl rfl) rfl (lv_at hlv 0 rfl) ?_
    refine lv_aload_n C.1 C.2.1 (zda zDX8_wasRight 12 rfl rfl) rfl (lv_at hlv 0 rfl) ?_
    refine zV_get C (zda zDX8_wasRight 13 rfl rfl) (show vwCl[8]? = some (RX8, TX8, 51) from rfl) zinX8 (by decide) zw1187 hv zvk94 (show 94 < 126 by decide) rfl (j := 15) hA ?_
    refine zV_callV C (zr_faultY hU (by omega)) rfl rfl (by decide) (by decide) (show vwCl[8]? = some (RX8, TX8, 51) from rfl) zw1356 zw1353 zw1355 zs99 zw16 (n := 1) (by decide +kernel) (zda zDX8_wasRight 16 rfl rfl) rfl zvk94 (show 94 < 126 by decide) hv hlv.1 (by show 0 ≤ 8; decide) (Nat.zero_le _) (Nat.zero_le _) (fun v f9 g9 ws H locs hp hv => ?_)
    obtain ⟨rfl, rfl, rfl⟩ := hp
    refine lv_aload_n C.1 C.2.1 (zda zDX8_wasRight 19 rfl rfl) rfl (lv_at hlv 0 rfl) ?_
    have hN : Int32.ofNat a ≠ Int32.ofInt (-1) := fun q => by
      have h9 := zon (show a < 1000 by omega)
      rw [q, zm1] at h9
      omega
    refine zV_callV C (zr_fineF (U := Int32.ofNat a) rfl hN) rfl rfl (by decide) (by decide) (show vwCl[8]? = some (RX8, TX8, 51) from rfl) zw1352 zw1349 zw1351 zs98 zw16 (n := 0) (by decide +kernel) (zda zDX8_wasRight 20 rfl rfl) rfl zvk94 (show 94 < 126 by decide) hv hlv.1 (by show 0 ≤ 8; decide) (Nat.zero_le _) (Nat.zero_le _) (fun v f9 g9 ws H locs hp hv => ?_)
    obtain ⟨rfl, rfl, rfl⟩ := hp
    exact hret 23 ls (some _) _ _ _ _ _ (Or.inl ⟨_, .boolean, rfl, rfl, rfl, (zda zDX8_wasRight 23 rfl rfl)⟩) hv (⟨rfl, rfl, rfl⟩)
theorem zr_right3 (hr : zRr b f n t a U) (hN : U ≠ Int32.ofInt (-1)) : zCt l D tys o z zyI b mX8_wasRight 6 600 [.ref (b 94)] f g (fun v f' g' => v = some (.int (Int32.ofInt 0)) ∧ f = f' ∧ g = g') := by
  refine zCt_of (mr := mX8_wasRight) (by decide) (by decide) (by decide) (show 1 ≤ 1 by decide) rfl rfl ?_
  intro p e s m below meth c0 Q ls ws C hret hv hlv
  replace C : zCx p { frames := 6, cells := 0, slots := 0, locals := 600 } s m ([.ref (b 94)] : List Value).toArray meth c0 D vwCl tys z (zXX o z) zTs RX8 cX8_wasRight 1 "wasRight" := C
  have hlv : lv_has ls 1 [(0, .ref (b 94))] := hlv
  obtain ⟨hR, hL, hT, hA, hU, hn, ht, ha⟩ := id hr
  refine lv_aload_n C.1 C.2.1 (zda zDX8_wasRight 0 rfl rfl) rfl (lv_at hlv 0 rfl) ?_
  refine zV_get C (zda zDX8_wasRight 1 rfl rfl) (show vwCl[8]? = some (RX8, TX8, 51) from rfl) zinX8 (by decide) zw1187 hv zvk94 (show 94 < 126 by decide) rfl (j := 15) hA ?_
  refine lv_aload_n C.1 C.2.1 (zda zDX8_wasRight 4 rfl rfl) rfl (lv_at hlv 0 rfl) ?_
  refine zV_get C (zda zDX8_wasRight 5 rfl rfl) (show vwCl[8]? = some (RX8, TX8, 51) from rfl) zinX8 (by decide) zw1185 hv zvk94 (show 94 < 126 by decide) rfl (j := 13) hL ?_
  refine lv_icmp_ge C.1 C.2.1 (zda zDX8_wasRight 8 rfl rfl) (tgt := 19) (by decide) (fun h8 => ?_) (fun h8 => ?_)
  · rw [zol (by omega) (by omega)] at h8
    refine lv_aload_n C.1 C.2.1 (zda zDX8_wasRight 19 rfl rfl) rfl (lv_at hlv 0 rfl) ?_
    refine zV_callV C (zr_fineF hU hN) rfl rfl (by decide) (by decide) (show vwCl[8]? = some (RX8, TX8, 51) from rfl) zw1352 zw1349 zw1351 zs98 zw16 (n := 0) (by decide +kernel) (zda zDX8_wasRight 20 rfl rfl) rfl zvk94 (show 94 < 126 by decide) hv hlv.1 (by show 0 ≤ 8; decide) (Nat.zero_le _) (Nat.zero_le _) (fun v f9 g9 ws H locs hp hv => ?_)
    obtain ⟨rfl, rfl, rfl⟩ := hp
    exact hret 23 ls (some _) _ _ _ _ _ (Or.inl ⟨_, .boolean, rfl, rfl, rfl, (zda zDX8_wasRight 23 rfl rfl)⟩) hv (⟨rfl, rfl, rfl⟩)
  · rw [zol (by omega) (by omega)] at h8
    refine lv_aload_n C.1 C.2.1 (zda zDX8_wasRight 11 rfl rfl) rfl (lv_at hlv 0 rfl) ?_
    refine lv_aload_n C.1 C.2.1 (zda zDX8_wasRight 12 rfl rfl) rfl (lv_at hlv 0 rfl) ?_
    refine zV_get C (zda zDX8_wasRight 13 rfl rfl) (show vwCl[8]? = some (RX8, TX8, 51) from rfl) zinX8 (by decide) zw1187 hv zvk94 (show 94 < 126 by decide) rfl (j := 15) hA ?_
    refine zV_callV C (zr_faultN hU hN) rfl rfl (by decide) (by decide) (show vwCl[8]? = some (RX8, TX8, 51) from rfl) zw1356 zw1353 zw1355 zs99 zw16 (n := 1) (by decide +kernel) (zda zDX8_wasRight 16 rfl rfl) rfl zvk94 (show 94 < 126 by decide) hv hlv.1 (by show 0 ≤ 8; decide) (Nat.zero_le _) (Nat.zero_le _) (fun v f9 g9 ws H locs hp hv => ?_)
    obtain ⟨rfl, rfl, rfl⟩ := hp
    refine lv_aload_n C.1 C.2.1 (zda zDX8_wasRight 19 rfl rfl) rfl (lv_at hlv 0 rfl) ?_
    refine zV_callV C (zr_fineF hU hN) rfl rfl (by decide) (by decide) (show vwCl[8]? = some (RX8, TX8, 51) from rfl) zw1352 zw1349 zw1351 zs98 zw16 (n := 0) (by decide +kernel) (zda zDX8_wasRight 20 rfl rfl) rfl zvk94 (show 94 < 126 by decide) hv hlv.1 (by show 0 ≤ 8; decide) (Nat.zero_le _) (Nat.zero_le _) (fun v f9 g9 ws H locs hp hv => ?_)
    obtain ⟨rfl, rfl, rfl⟩ := hp
    exact hret 23 ls (some _) _ _ _ _ _ (Or.inl ⟨_, .boolean, rfl, rfl, rfl, (zda zDX8_wasRight 23 rfl rfl)⟩) hv (⟨rfl, rfl, rfl⟩)
theorem zr_begin (hn : n ≤ 80) (ht : t ≤ 76) : zCt l D tys o z zyI b mX8_begin 2 300 [.ref (b 94), .ref (b 99), .int (Int32.ofNat n), .int (Int32.ofNat t)] f g (fun v f' g' => v = none ∧ f' = zuv (zuv (zuv (zuv (zuv f 94 12 (.ref (b 99))) 94 13 (.int (Int32.ofNat n))) 94 14 (.int (Int32.ofNat t))) 94 15 (.int (Int32.ofNat 0))) 94 16 (.int (Int32.ofInt (-1))) ∧ g = g') := by
  refine zCt_of (mr := mX8_begin) (by decide) (by decide) (by decide) (show 4 ≤ 4 by decide) rfl rfl ?_
  intro p e s m below meth c0 Q ls ws C hret hv hlv
  replace C : zCx p { frames := 2, cells := 0, slots := 0, locals := 300 } s m ([.ref (b 94), .ref (b 99), .int (Int32.ofNat n), .int (Int32.ofNat t)] : List Value).toArray meth c0 D vwCl tys z (zXX o z) zTs RX8 cX8_begin 4 "begin" := C
  have hlv : lv_has ls 4 [(0, .ref (b 94)), (1, .ref (b 99)), (2, .int (Int32.ofNat n)), (3, .int (Int32.ofNat t))] := hlv
  have hn9 := zon (show n < 1000 by omega)
  have ht9 := zon (show t < 1000 by omega)
  refine lv_aload_n C.1 C.2.1 (zda zDX8_begin 0 rfl rfl) rfl (lv_at hlv 0 rfl) ?_
  refine lv_aload_n C.1 C.2.1 (zda zDX8_begin 1 rfl rfl) rfl (lv_at hlv 1 rfl) ?_
  refine zV_put C (zda zDX8_begin 2 rfl rfl) (show vwCl[8]? = some (RX8, TX8, 51) from rfl) zinX8 tyX8 tyX8_ok nmX8 (j := 12) (by decide) zw1184 rfl (ty := (.array .byte)) (by decide +kernel) hv zvk94 (show 94 < 126 by decide) rfl ⟨fun q => absurd q (by decide), Or.inr ⟨_, rfl⟩⟩ rfl rfl (fun ws H locs hv => ?_)
  refine lv_aload_n C.1 C.2.1 (zda zDX8_begin 5 rfl rfl) rfl (lv_at hlv 0 rfl) ?_
  refine lv_iload_n C.1 C.2.1 (zda zDX8_begin 6 rfl rfl) rfl (lv_at hlv 2 rfl) ?_
  refine zV_puti C (zda zDX8_begin 7 rfl rfl) (show vwCl[8]? = some (RX8, TX8, 51) from rfl) zinX8 tyX8 tyX8_ok nmX8 (j := 13) (by decide) zw1185 rfl (by decide +kernel) hv zvk94 (show 94 < 126 by decide) rfl ⟨by show (0 : Int) ≤ _; omega, by show _ ≤ (80 : Int); omega⟩ (fun ws H locs hv => ?_)
  refine lv_aload_n C.1 C.2.1 (zda zDX8_begin 10 rfl rfl) rfl (lv_at hlv 0 rfl) ?_
  refine lv_iload_n C.1 C.2.1 (zda zDX8_begin 11 rfl rfl) rfl (lv_at hlv 3 rfl) ?_
  refine zV_puti C (zda zDX8_begin 12 rfl rfl) (show vwCl[8]? = some (RX8, TX8, 51) from rfl) zinX8 tyX8 tyX8_ok nmX8 (j := 14) (by decide) zw1186 rfl (by decide +kernel) hv zvk94 (show 94 < 126 by decide) rfl ⟨by show (0 : Int) ≤ _; omega, by show _ ≤ (76 : Int); omega⟩ (fun ws H locs hv => ?_)
  refine lv_aload_n C.1 C.2.1 (zda zDX8_begin 15 rfl rfl) rfl (lv_at hlv 0 rfl) ?_
  refine lv_iconst C.1 C.2.1 (zda zDX8_begin 16 rfl rfl) rfl ?_
  refine zV_puti C (zda zDX8_begin 17 rfl rfl) (show vwCl[8]? = some (RX8, TX8, 51) from rfl) zinX8 tyX8 tyX8_ok nmX8 (j := 15) (by decide) zw1187 rfl (by decide +kernel) hv zvk94 (show 94 < 126 by decide) rfl ⟨by show (0 : Int) ≤ _; decide, by show _ ≤ (76 : Int); decide⟩ (fun ws H locs hv => ?_)
  refine lv_aload_n C.1 C.2.1 (zda zDX8_begin 20 rfl rfl) rfl (lv_at hlv 0 rfl) ?_
  refine lv_iconst C.1 C.2.1 (zda zDX8_begin 21 rfl rfl) rfl ?_
  refine zV_puti C (zda zDX8_begin 22 rfl rfl) (show vwCl[8]? = some (RX8, TX8, 51) from rfl) zinX8 tyX8 tyX8_ok nmX8 (j := 16) (by decide) zw1188 rfl (by decide +kernel) hv zvk94 (show 94 < 126 by decide) rfl ⟨by show (-1 : Int) ≤ _; decide, by show _ ≤ (80 : Int); decide⟩ (fun ws H locs hv => ?_)
  exact hret 25 ls none _ _ _ _ _ ⟨rfl, (zda zDX8_begin 25 rfl rfl)⟩ hv (⟨rfl, by rw [← zo00], rfl⟩)
theorem zr_bt (hy : f 94 8 = .int (Int32.ofNat n)) (hn : n ≤ 80) (ht : t ≤ 76) : zCt l D tys o z zyI b mX8_beginText 4 400 [.ref (b 94), .int (Int32.ofNat t)] f g (fun v f' g' => v = none ∧ f' = zuv (zuv (zuv (zuv (zuv (zuv f 94 12 (.ref (b 99))) 94 13 (.int (Int32.ofNat n))) 94 14 (.int (Int32.ofNat t))) 94 15 (.int (Int32.ofNat 0))) 94 16 (.int (Int32.ofInt (-1)))) 94 8 (.int (Int32.ofNat 0)) ∧ g = g') := by
  refine zCt_of (mr := mX8_beginText) (by decide) (by decide) (by decide) (show 2 ≤ 2 by decide) rfl rfl ?_
  intro p e s m below meth c0 Q ls ws C hret hv hlv
  replace C : zCx p { frames := 4, cells := 0, slots := 0, locals := 400 } s m ([.ref (b 94), .int (Int32.ofNat t)] : List Value).toArray meth c0 D vwCl tys z (zXX o z) zTs RX8 cX8_beginText 2 "beginText" := C
  have hlv : lv_has ls 2 [(0, .ref (b 94)), (1, .int (Int32.ofNat t))] := hlv
  refine lv_aload_n C.1 C.2.1 (zda zDX8_beginText 0 rfl rfl) rfl (lv_at hlv 0 rfl) ?_
  refine lv_aload_n C.1 C.2.1 (zda zDX8_beginText 1 rfl rfl) rfl (lv_at hlv 0 rfl) ?_
  refine zV_get C (zda zDX8_beginText 2 rfl rfl) (show vwCl[8]? = some (RX8, TX8, 51) from rfl) zinX8 (by decide) zw1179 hv zvk94 (show 94 < 126 by decide) rfl (j := 7) (zV_ref hv zvk94 (show 94 < 126 by decide) rfl) ?_
  refine lv_aload_n C.1 C.2.1 (zda zDX8_beginText 5 rfl rfl) rfl (lv_at hlv 0 rfl) ?_
  refine zV_get C (zda zDX8_beginText 6 rfl rfl) (show vwCl[8]? = some (RX8, TX8, 51) from rfl) zinX8 (by decide) zw1180 hv zvk94 (show 94 < 126 by decide) rfl (j := 8) hy ?_
  refine lv_iload_n C.1 C.2.1 (zda zDX8_beginText 9 rfl rfl) rfl (lv_at hlv 1 rfl) ?_
  refine zV_callV C (zr_begin hn ht) rfl rfl (by decide) (by decide) (show vwCl[8]? = some (RX8, TX8, 51) from rfl) zw1348 zw1345 zw1347 zs97 zw16 (n := 3) (by decide +kernel) (zda zDX8_beginText 10 rfl rfl) rfl zvk94 (show 94 < 126 by decide) hv hlv.1 (by show 0 ≤ 8; decide) (Nat.zero_le _) (Nat.zero_le _) (fun v f9 g9 ws H locs hp hv => ?_)
  obtain ⟨rfl, rfl, rfl⟩ := hp
  refine lv_aload_n C.1 C.2.1 (zda zDX8_beginText 13 rfl rfl) rfl (lv_at hlv 0 rfl) ?_
  refine lv_iconst C.1 C.2.1 (zda zDX8_beginText 14 rfl rfl) rfl ?_
  refine zV_puti C (zda zDX8_beginText 15 rfl rfl) (show vwCl[8]? = some (RX8, TX8, 51) from rfl) zinX8 tyX8 tyX8_ok nmX8 (j := 8) (by decide) zw1180 rfl (by decide +kernel) hv zvk94 (show 94 < 126 by decide) rfl ⟨by show (0 : Int) ≤ _; decide, by show _ ≤ (80 : Int); decide⟩ (fun ws H locs hv => ?_)
  exact hret 18 ls none _ _ _ _ _ ⟨rfl, (zda zDX8_beginText 18 rfl rfl)⟩ hv (⟨rfl, by rw [← zo00], rfl⟩)
end ZREAD
