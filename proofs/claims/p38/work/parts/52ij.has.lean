section ZHAS
variable {l0 : Launch} {D : va_G} {tys : List (ClassId × FieldType)} {o : zO} {z : Nat} {b : Nat → Nat} {f : Nat → Nat → Value} {g : Nat → Nat → Int32}
theorem zc_ishT {x : Int32} (hx : 0 ≤ x.toInt ∧ x.toInt ≤ 7) : zCt l0 D tys o z zyI b mX7_isHour 2 300 [.int x] f g (fun v f' g' => v = some (.int (Int32.ofInt 1)) ∧ f = f' ∧ g = g') := by
  refine zCt_of (mr := mX7_isHour) (by decide) (by decide) (by decide) (show 1 ≤ 1 by decide) rfl rfl ?_
  intro p e s m below meth c0 Q ls ws C hret hv hlv
  replace C : zCx p { frames := 2, cells := 0, slots := 0, locals := 300 } s m ([.int x] : List Value).toArray meth c0 D vwCl tys z (zXX o z) zTs RX7 cX7_isHour 1 "isHour" := C
  have hlv : lv_has ls 1 [(0, .int x)] := hlv
  refine lv_iload_n C.1 C.2.1 (zda zDX7_isHour 0 rfl rfl) rfl (lv_at hlv 0 rfl) ?_
  refine lv_if_lt C.1 C.2.1 (zda zDX7_isHour 1 rfl rfl) (tgt := 14) (by decide) (fun h1 => ?_) (fun h1 => ?_)
  · rw [Int32.lt_iff_toInt_lt, Int32.toInt_zero] at h1
    omega
  · rw [Int32.lt_iff_toInt_lt, Int32.toInt_zero] at h1
    refine lv_iload_n C.1 C.2.1 (zda zDX7_isHour 4 rfl rfl) rfl (lv_at hlv 0 rfl) ?_
    refine lv_bipush C.1 C.2.1 (zda zDX7_isHour 5 rfl rfl) rfl ?_
    refine lv_icmp_ge C.1 C.2.1 (zda zDX7_isHour 7 rfl rfl) (tgt := 14) (by decide) (fun h7 => ?_) (fun h7 => ?_)
    · rw [zi8, Int32.le_iff_toInt_le, zon (by decide)] at h7
      omega
    · rw [zi8, Int32.le_iff_toInt_le, zon (by decide)] at h7
      refine lv_iconst C.1 C.2.1 (zda zDX7_isHour 10 rfl rfl) rfl ?_
      refine lv_goto C.1 C.2.1 (zda zDX7_isHour 11 rfl rfl) (tgt := 15) (by decide) ?_
      exact hret 15 ls (some _) _ _ _ _ _ (Or.inl ⟨_, .boolean, rfl, rfl, rfl, (zda zDX7_isHour 15 rfl rfl)⟩) hv (⟨rfl, rfl, rfl⟩)
theorem zc_ishF {x : Int32} (hx : ¬ (0 ≤ x.toInt ∧ x.toInt ≤ 7)) : zCt l0 D tys o z zyI b mX7_isHour 2 300 [.int x] f g (fun v f' g' => v = some (.int (Int32.ofInt 0)) ∧ f = f' ∧ g = g') := by
  refine zCt_of (mr := mX7_isHour) (by decide) (by decide) (by decide) (show 1 ≤ 1 by decide) rfl rfl ?_
  intro p e s m below meth c0 Q ls ws C hret hv hlv
  replace C : zCx p { frames := 2, cells := 0, slots := 0, locals := 300 } s m ([.int x] : List Value).toArray meth c0 D vwCl tys z (zXX o z) zTs RX7 cX7_isHour 1 "isHour" := C
  have hlv : lv_has ls 1 [(0, .int x)] := hlv
  refine lv_iload_n C.1 C.2.1 (zda zDX7_isHour 0 rfl rfl) rfl (lv_at hlv 0 rfl) ?_
  refine lv_if_lt C.1 C.2.1 (zda zDX7_isHour 1 rfl rfl) (tgt := 14) (by decide) (fun h1 => ?_) (fun h1 => ?_)
  · rw [Int32.lt_iff_toInt_lt, Int32.toInt_zero] at h1
    refine lv_iconst C.1 C.2.1 (zda zDX7_isHour 14 rfl rfl) rfl ?_
    exact hret 15 ls (some _) _ _ _ _ _ (Or.inl ⟨_, .boolean, rfl, rfl, rfl, (zda zDX7_isHour 15 rfl rfl)⟩) hv (⟨rfl, rfl, rfl⟩)
  · rw [Int32.lt_iff_toInt_lt, Int32.toInt_zero] at h1
    refine lv_iload_n C.1 C.2.1 (zda zDX7_isHour 4 rfl rfl) rfl (lv_at hlv 0 rfl) ?_
    refine lv_bipush C.1 C.2.1 (zda zDX7_isHour 5 rfl rfl) rfl ?_
    refine lv_icmp_ge C.1 C.2.1 (zda zDX7_isHour 7 rfl rfl) (tgt := 14) (by decide) (fun h7 => ?_) (fun h7 => ?_)
    · rw [zi8, Int32.le_iff_toInt_le, zon (by decide)] at h7
      refine lv_iconst C.1 C.2.1 (zda zDX7_isHour 14 rfl rfl) rfl ?_
      exact hret 15 ls (some _) _ _ _ _ _ (Or.inl ⟨_, .boolean, rfl, rfl, rfl, (zda zDX7_isHour 15 rfl rfl)⟩) hv (⟨rfl, rfl, rfl⟩)
    · rw [zi8, Int32.le_iff_toInt_le, zon (by decide)] at h7
      omega
theorem zc_hasT {x : Int32} {c : Nat} (hM : f 3 6 = .int (Int32.ofNat c)) (hc : c ≤ 8) (hx : 0 ≤ x.toInt ∧ x.toInt < (c : Int)) : zCt l0 D tys o z zyI b mX0_has 2 300 [.ref (b 3), .int x] f g (fun v f' g' => v = some (.int (Int32.ofInt 1)) ∧ f = f' ∧ g = g') := by
  refine zCt_of (mr := mX0_has) (by decide) (by decide) (by decide) (show 2 ≤ 2 by decide) rfl rfl ?_
  intro p e s m below meth c0 Q ls ws C hret hv hlv
  replace C : zCx p { frames := 2, cells := 0, slots := 0, locals := 300 } s m ([.ref (b 3), .int x] : List Value).toArray meth c0 D vwCl tys z (zXX o z) zTs RX0 cX0_has 2 "has" := C
  have hlv : lv_has ls 2 [(0, .ref (b 3)), (1, .int x)] := hlv
  have hc9 := zon (show c < 1000 by omega)
  refine lv_iload_n C.1 C.2.1 (zda zDX0_has 0 rfl rfl) rfl (lv_at hlv 1 rfl) ?_
  refine lv_if_lt C.1 C.2.1 (zda zDX0_has 1 rfl rfl) (tgt := 16) (by decide) (fun h1 => ?_) (fun h1 => ?_)
  · rw [Int32.lt_iff_toInt_lt, Int32.toInt_zero] at h1
    omega
  · rw [Int32.lt_iff_toInt_lt, Int32.toInt_zero] at h1
    refine lv_iload_n C.1 C.2.1 (zda zDX0_has 4 rfl rfl) rfl (lv_at hlv 1 rfl) ?_
    refine lv_aload_n C.1 C.2.1 (zda zDX0_has 5 rfl rfl) rfl (lv_at hlv 0 rfl) ?_
    refine zV_get C (zda zDX0_has 6 rfl rfl) (show vwCl[0]? = some (RX0, TX0, 12) from rfl) zinX0 (by decide) zw255 hv zvk3 (show 3 < 126 by decide) rfl (j := 6) hM ?_
    refine lv_icmp_ge C.1 C.2.1 (zda zDX0_has 9 rfl rfl) (tgt := 16) (by decide) (fun h9 => ?_) (fun h9 => ?_)
    · rw [Int32.le_iff_toInt_le, hc9] at h9
      omega
    · rw [Int32.le_iff_toInt_le, hc9] at h9
      refine lv_iconst C.1 C.2.1 (zda zDX0_has 12 rfl rfl) rfl ?_
      refine lv_goto C.1 C.2.1 (zda zDX0_has 13 rfl rfl) (tgt := 17) (by decide) ?_
      exact hret 17 ls (some _) _ _ _ _ _ (Or.inl ⟨_, .boolean, rfl, rfl, rfl, (zda zDX0_has 17 rfl rfl)⟩) hv (⟨rfl, rfl, rfl⟩)
theorem zc_hasF {x : Int32} {c : Nat} (hM : f 3 6 = .int (Int32.ofNat c)) (hc : c ≤ 8) (hx : ¬ (0 ≤ x.toInt ∧ x.toInt < (c : Int))) : zCt l0 D tys o z zyI b mX0_has 2 300 [.ref (b 3), .int x] f g (fun v f' g' => v = some (.int (Int32.ofInt 0)) ∧ f = f' ∧ g = g') := by
  refine zCt_of (mr := mX0_has) (by decide) (by decide) (by decide) (show 2 ≤ 2 by decide) rfl rfl ?_
  intro p e s m below meth c0 Q ls ws C hret hv hlv
  replace C : zCx p { frames := 2, cells := 0, slots := 0, locals := 300 } s m ([.ref (b 3), .int x] : List Value).toArray meth c0 D vwCl tys z (zXX o z) zTs RX0 cX0_has 2 "has" := C
  have hlv : lv_has ls 2 [(0, .ref (b 3)), (1, .int x)] := hlv
  have hc9 := zon (show c < 1000 by omega)
  refine lv_iload_n C.1 C.2.1 (zda zDX0_has 0 rfl rfl) rfl (lv_at hlv 1 rfl) ?_
  refine lv_if_lt C.1 C.2.1 (zda zDX0_has 1 rfl rfl) (tgt := 16) (by decide) (fun h1 => ?_) (fun h1 => ?_)
  · rw [Int32.lt_iff_toInt_lt, Int32.toInt_zero] at h1
    refine lv_iconst C.1 C.2.1 (zda zDX0_has 16 rfl rfl) rfl ?_
    exact hret 17 ls (some _) _ _ _ _ _ (Or.inl ⟨_, .boolean, rfl, rfl, rfl, (zda zDX0_has 17 rfl rfl)⟩) hv (⟨rfl, rfl, rfl⟩)
  · rw [Int32.lt_iff_toInt_lt, Int32.toInt_zero] at h1
    refine lv_iload_n C.1 C.2.1 (zda zDX0_has 4 rfl rfl) rfl (lv_at hlv 1 rfl) ?_
    refine lv_aload_n C.1 C.2.1 (zda zDX0_has 5 rfl rfl) rfl (lv_at hlv 0 rfl) ?_
    refine zV_get C (zda zDX0_has 6 rfl rfl) (show vwCl[0]? = some (RX0, TX0, 12) from rfl) zinX0 (by decide) zw255 hv zvk3 (show 3 < 126 by decide) rfl (j := 6) hM ?_
    refine lv_icmp_ge C.1 C.2.1 (zda zDX0_has 9 rfl rfl) (tgt := 16) (by decide) (fun h9 => ?_) (fun h9 => ?_)
    · rw [Int32.le_iff_toInt_le, hc9] at h9
      refine lv_iconst C.1 C.2.1 (zda zDX0_has 16 rfl rfl) rfl ?_
      exact hret 17 ls (some _) _ _ _ _ _ (Or.inl ⟨_, .boolean, rfl, rfl, rfl, (zda zDX0_has 17 rfl rfl)⟩) hv (⟨rfl, rfl, rfl⟩)
    · rw [Int32.le_iff_toInt_le, hc9] at h9
      omega
theorem zr_ishT {x : Int32} (hx : 0 ≤ x.toInt ∧ x.toInt ≤ 7) : zCt l0 D tys o z zyI b mX8_isHour 4 400 [.int x] f g (fun v f' g' => v = some (.int (Int32.ofInt 1)) ∧ f = f' ∧ g = g') := by
  refine zCt_of (mr := mX8_isHour) (by decide) (by decide) (by decide) (show 1 ≤ 1 by decide) rfl rfl ?_
  intro p e s m below meth c0 Q ls ws C hret hv hlv
  replace C : zCx p { frames := 4, cells := 0, slots := 0, locals := 400 } s m ([.int x] : List Value).toArray meth c0 D vwCl tys z (zXX o z) zTs RX8 cX8_isHour 1 "isHour" := C
  have hlv : lv_has ls 1 [(0, .int x)] := hlv
  refine lv_iload_n C.1 C.2.1 (zda zDX8_isHour 0 rfl rfl) rfl (lv_at hlv 0 rfl) ?_
  refine lv_iconst C.1 C.2.1 (zda zDX8_isHour 1 rfl rfl) rfl ?_
  refine lv_bipush C.1 C.2.1 (zda zDX8_isHour 2 rfl rfl) rfl ?_
  refine zV_callS C (zr_inT (by rw [Int32.lt_iff_toInt_lt, show (Int32.ofInt 0).toInt = 0 by decide]; omega) (by rw [Int32.lt_iff_toInt_lt, show ((Int8.ofInt 7).toInt32).toInt = 7 by decide]; omega)) rfl rfl (by decide) (by decide) zw1336 zw1334 zw1335 zw16 (n := 3) (by decide +kernel) (zda zDX8_isHour 4 rfl rfl) rfl hv hlv.1 (by show 0 ≤ 8; decide) (Nat.zero_le _) (Nat.zero_le _) (fun v f9 g9 ws H locs hp hv => ?_)
  obtain ⟨rfl, rfl, rfl⟩ := hp
  exact hret 7 ls (some _) _ _ _ _ _ (Or.inl ⟨_, .boolean, rfl, rfl, rfl, (zda zDX8_isHour 7 rfl rfl)⟩) hv (⟨rfl, rfl, rfl⟩)
theorem zr_ishF {x : Int32} (hx : ¬ (0 ≤ x.toInt ∧ x.toInt ≤ 7)) : zCt l0 D tys o z zyI b mX8_isHour 4 400 [.int x] f g (fun v f' g' => v = some (.int (Int32.ofInt 0)) ∧ f = f' ∧ g = g') := by
  refine zCt_of (mr := mX8_isHour) (by decide) (by decide) (by decide) (show 1 ≤ 1 by decide) rfl rfl ?_
  intro p e s m below meth c0 Q ls ws C hret hv hlv
  replace C : zCx p { frames := 4, cells := 0, slots := 0, locals := 400 } s m ([.int x] : List Value).toArray meth c0 D vwCl tys z (zXX o z) zTs RX8 cX8_isHour 1 "isHour" := C
  have hlv : lv_has ls 1 [(0, .int x)] := hlv
  refine lv_iload_n C.1 C.2.1 (zda zDX8_isHour 0 rfl rfl) rfl (lv_at hlv 0 rfl) ?_
  refine lv_iconst C.1 C.2.1 (zda zDX8_isHour 1 rfl rfl) rfl ?_
  refine lv_bipush C.1 C.2.1 (zda zDX8_isHour 2 rfl rfl) rfl ?_
  refine zV_callS C (zr_inF (by rw [Int32.lt_iff_toInt_lt, Int32.lt_iff_toInt_lt, show (Int32.ofInt 0).toInt = 0 by decide, show ((Int8.ofInt 7).toInt32).toInt = 7 by decide]; omega)) rfl rfl (by decide) (by decide) zw1336 zw1334 zw1335 zw16 (n := 3) (by decide +kernel) (zda zDX8_isHour 4 rfl rfl) rfl hv hlv.1 (by show 0 ≤ 8; decide) (Nat.zero_le _) (Nat.zero_le _) (fun v f9 g9 ws H locs hp hv => ?_)
  obtain ⟨rfl, rfl, rfl⟩ := hp
  exact hret 7 ls (some _) _ _ _ _ _ (Or.inl ⟨_, .boolean, rfl, rfl, rfl, (zda zDX8_isHour 7 rfl rfl)⟩) hv (⟨rfl, rfl, rfl⟩)
theorem zr_man1T {x : Int32} {c : Nat} (hM : f 94 3 = .int (Int32.ofNat c)) (hc : c ≤ 8) (hx : 0 ≤ x.toInt ∧ x.toInt < (c : Int)) : zCt l0 D tys o z zyI b mX8_isMan 4 400 [.ref (b 94), .int x] f g (fun v f' g' => v = some (.int (Int32.ofInt 1)) ∧ f = f' ∧ g = g') := by
  refine zCt_of (mr := mX8_isMan) (by decide) (by decide) (by decide) (show 2 ≤ 2 by decide) rfl rfl ?_
  intro p e s m below meth c0 Q ls ws C hret hv hlv
  replace C : zCx p { frames := 4, cells := 0, slots := 0, locals := 400 } s m ([.ref (b 94), .int x] : List Value).toArray meth c0 D vwCl tys z (zXX o z) zTs RX8 cX8_isMan 2 "isMan" := C
  have hlv : lv_has ls 2 [(0, .ref (b 94)), (1, .int x)] := hlv
  have hc1 : (Int32.ofNat c - Int32.ofInt 1).toInt = (c : Int) - 1 := by
    rw [Int32.toInt_sub, zon (by omega), show (Int32.ofInt 1).toInt = 1 by decide, zbm (B := 2147483648) (by decide) (by omega) (by omega)]
  refine lv_iload_n C.1 C.2.1 (zda zDX8_isMan 0 rfl rfl) rfl (lv_at hlv 1 rfl) ?_
  refine lv_iconst C.1 C.2.1 (zda zDX8_isMan 1 rfl rfl) rfl ?_
  refine lv_aload_n C.1 C.2.1 (zda zDX8_isMan 2 rfl rfl) rfl (lv_at hlv 0 rfl) ?_
  refine zV_get C (zda zDX8_isMan 3 rfl rfl) (show vwCl[8]? = some (RX8, TX8, 51) from rfl) zinX8 (by decide) zw1175 hv zvk94 (show 94 < 126 by decide) rfl (j := 3) hM ?_
  refine lv_iconst C.1 C.2.1 (zda zDX8_isMan 6 rfl rfl) rfl ?_
  refine lv_isub C.1 C.2.1 (zda zDX8_isMan 7 rfl rfl) ?_
  refine zV_callS C (zr_inT (by rw [Int32.lt_iff_toInt_lt, show (Int32.ofInt 0).toInt = 0 by decide]; omega) (by rw [Int32.lt_iff_toInt_lt, hc1]; omega)) rfl rfl (by decide) (by decide) zw1336 zw1334 zw1335 zw16 (n := 3) (by decide +kernel) (zda zDX8_isMan 8 rfl rfl) rfl hv hlv.1 (by show 0 ≤ 8; decide) (Nat.zero_le _) (Nat.zero_le _) (fun v f9 g9 ws H locs hp hv => ?_)
  obtain ⟨rfl, rfl, rfl⟩ := hp
  exact hret 11 ls (some _) _ _ _ _ _ (Or.inl ⟨_, .boolean, rfl, rfl, rfl, (zda zDX8_isMan 11 rfl rfl)⟩) hv (⟨rfl, rfl, rfl⟩)
theorem zr_man1F {x : Int32} {c : Nat} (hM : f 94 3 = .int (Int32.ofNat c)) (hc : c ≤ 8) (hx : ¬ (0 ≤ x.toInt ∧ x.toInt < (c : Int))) : zCt l0 D tys o z zyI b mX8_isMan 4 400 [.ref (b 94), .int x] f g (fun v f' g' => v = some (.int (Int32.ofInt 0)) ∧ f = f' ∧ g = g') := by
  refine zCt_of (mr := mX8_isMan) (by decide) (by decide) (by decide) (show 2 ≤ 2 by decide) rfl rfl ?_
  intro p e s m below meth c0 Q ls ws C hret hv hlv
  replace C : zCx p { frames := 4, cells := 0, slots := 0, locals := 400 } s m ([.ref (b 94), .int x] : List Value).toArray meth c0 D vwCl tys z (zXX o z) zTs RX8 cX8_isMan 2 "isMan" := C
  have hlv : lv_has ls 2 [(0, .ref (b 94)), (1, .int x)] := hlv
  have hc1 : (Int32.ofNat c - Int32.ofInt 1).toInt = (c : Int) - 1 := by
    rw [Int32.toInt_sub, zon (by omega), show (Int32.ofInt 1).toInt = 1 by decide, zbm (B := 2147483648) (by decide) (by omega) (by omega)]
  refine lv_iload_n C.1 C.2.1 (zda zDX8_isMan 0 rfl rfl) rfl (lv_at hlv 1 rfl) ?_
  refine lv_iconst C.1 C.2.1 (zda zDX8_isMan 1 rfl rfl) rfl ?_
  refine lv_aload_n C.1 C.2.1 (zda zDX8_isMan 2 rfl rfl) rfl (lv_at hlv 0 rfl) ?_
  refine zV_get C (zda zDX8_isMan 3 rfl rfl) (show vwCl[8]? = some (RX8, TX8, 51) from rfl) zinX8 (by decide) zw1175 hv zvk94 (show 94 < 126 by decide) rfl (j := 3) hM ?_
  refine lv_iconst C.1 C.2.1 (zda zDX8_isMan 6 rfl rfl) rfl ?_
  refine lv_isub C.1 C.2.1 (zda zDX8_isMan 7 rfl rfl) ?_
  refine zV_callS C (zr_inF (by rw [Int32.lt_iff_toInt_lt, Int32.lt_iff_toInt_lt, show (Int32.ofInt 0).toInt = 0 by decide, hc1]; omega)) rfl rfl (by decide) (by decide) zw1336 zw1334 zw1335 zw16 (n := 3) (by decide +kernel) (zda zDX8_isMan 8 rfl rfl) rfl hv hlv.1 (by show 0 ≤ 8; decide) (Nat.zero_le _) (Nat.zero_le _) (fun v f9 g9 ws H locs hp hv => ?_)
  obtain ⟨rfl, rfl, rfl⟩ := hp
  exact hret 11 ls (some _) _ _ _ _ _ (Or.inl ⟨_, .boolean, rfl, rfl, rfl, (zda zDX8_isMan 11 rfl rfl)⟩) hv (⟨rfl, rfl, rfl⟩)
end ZHAS
