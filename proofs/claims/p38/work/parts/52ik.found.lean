theorem zi12 : (Int8.ofInt 12).toInt32 = Int32.ofNat 12 := by decide
section ZFND
variable {l0 : Launch} {D : va_G} {tys : List (ClassId × FieldType)} {o : zO} {z : Nat} {b : Nat → Nat} {f : Nat → Nat → Value} {g : Nat → Nat → Int32}
set_option maxHeartbeats 8000000 in
theorem zc_found {x1 x2 x3 : Int32} {c n : Nat} (hM : f 3 6 = .int (Int32.ofNat c)) (hc : c ≤ 8) (hF : f 0 13 = .int (Int32.ofNat n)) (hn : n ≤ 12) : zCt l0 D tys o z zyI b mX7_found 8 800 [.ref (b 0), .int x1, .int x2, .int x3] f g (fun v f' g' => ((((0 ≤ x1.toInt ∧ x1.toInt ≤ 7) ∧ (0 ≤ x2.toInt ∧ x2.toInt < (c : Int)) ∧ (0 ≤ x3.toInt ∧ x3.toInt ≤ 1) ∧ n < 12) ∧ v = some (.int (Int32.ofNat (n + 1))) ∧ f' 0 13 = .int (Int32.ofNat (n + 1))) ∨ (¬ ((0 ≤ x1.toInt ∧ x1.toInt ≤ 7) ∧ (0 ≤ x2.toInt ∧ x2.toInt < (c : Int)) ∧ (0 ≤ x3.toInt ∧ x3.toInt ≤ 1) ∧ n < 12) ∧ v = some (.int (Int32.ofInt (-1))) ∧ f' 0 13 = .int (Int32.ofNat n))) ∧ (∀ k j, ¬ (k = 0 ∧ j = 13) → f' k j = f k j) ∧ g' 2 = g 2 ∧ g' 99 = g 99) := by
  refine zCt_of (mr := mX7_found) (by decide) (by decide) (by decide) (show 4 ≤ 4 by decide) rfl rfl ?_
  intro p e s m below meth c0 Q ls ws C hret hv hlv
  replace C : zCx p { frames := 8, cells := 0, slots := 0, locals := 800 } s m ([.ref (b 0), .int x1, .int x2, .int x3] : List Value).toArray meth c0 D vwCl tys z (zXX o z) zTs RX7 cX7_found 4 "found" := C
  have hlv : lv_has ls 4 [(0, .ref (b 0)), (1, .int x1), (2, .int x2), (3, .int x3)] := hlv
  have hn9 := zon (show n < 1000 by omega)
  refine lv_iload_n C.1 C.2.1 (zda zDX7_found 0 rfl rfl) rfl (lv_at hlv 1 rfl) ?_
  by_cases q1 : 0 ≤ x1.toInt ∧ x1.toInt ≤ 7
  · refine zV_callS C (zc_ishT q1) rfl rfl (by decide) (by decide) zw553 zw551 zw552 zw1 (n := 1) (by decide +kernel) (zda zDX7_found 1 rfl rfl) rfl hv hlv.1 (by show 0 ≤ 8; decide) (Nat.zero_le _) (Nat.zero_le _) (fun v f9 g9 ws H locs hp hv => ?_)
    obtain ⟨rfl, rfl, rfl⟩ := hp
    refine lv_if_eq C.1 C.2.1 (zda zDX7_found 4 rfl rfl) (tgt := 36) (by decide) (fun h4 => ?_) (fun h4 => ?_)
    · exact absurd h4 (by decide)
    · refine lv_aload_n C.1 C.2.1 (zda zDX7_found 7 rfl rfl) rfl (lv_at hlv 0 rfl) ?_
      refine zV_get C (zda zDX7_found 8 rfl rfl) (show vwCl[7]? = some (RX7, TX7, 16) from rfl) zinX7 (by decide) zw424 hv zvk0 (show 0 < 126 by decide) rfl (j := 1) (zV_ref hv zvk0 (show 0 < 126 by decide) rfl) ?_
      refine lv_iload_n C.1 C.2.1 (zda zDX7_found 11 rfl rfl) rfl (lv_at hlv 2 rfl) ?_
      by_cases q2 : 0 ≤ x2.toInt ∧ x2.toInt < (c : Int)
      · refine zV_callN C (zc_hasT hM hc q2) rfl rfl (by decide) (by decide) (show vwCl[0]? = some (RX0, TX0, 12) from rfl) zw550 (fun U H h => zn46 h) zw549 zs23 zw3 (n := 1) (by decide +kernel) (zda zDX7_found 12 rfl rfl) rfl zvk3 (show 3 < 126 by decide) hv hlv.1 (by show 0 ≤ 8; decide) (Nat.zero_le _) (Nat.zero_le _) (fun v f9 g9 ws H locs hp hv => ?_)
        obtain ⟨rfl, rfl, rfl⟩ := hp
        refine lv_if_eq C.1 C.2.1 (zda zDX7_found 15 rfl rfl) (tgt := 36) (by decide) (fun h15 => ?_) (fun h15 => ?_)
        · exact absurd h15 (by decide)
        · refine lv_iload_n C.1 C.2.1 (zda zDX7_found 18 rfl rfl) rfl (lv_at hlv 3 rfl) ?_
          refine lv_if_lt C.1 C.2.1 (zda zDX7_found 19 rfl rfl) (tgt := 36) (by decide) (fun h19 => ?_) (fun h19 => ?_)
          · rw [Int32.lt_iff_toInt_lt, Int32.toInt_zero] at h19
            refine lv_iconst C.1 C.2.1 (zda zDX7_found 36 rfl rfl) rfl ?_
            exact hret 37 ls (some _) _ _ _ _ _ (Or.inl ⟨_, .int, rfl, rfl, rfl, (zda zDX7_found 37 rfl rfl)⟩) hv (⟨Or.inr ⟨by omega, rfl, hF⟩, fun k j hk => rfl, rfl, rfl⟩)
          · rw [Int32.lt_iff_toInt_lt, Int32.toInt_zero] at h19
            refine lv_iload_n C.1 C.2.1 (zda zDX7_found 22 rfl rfl) rfl (lv_at hlv 3 rfl) ?_
            refine lv_iconst C.1 C.2.1 (zda zDX7_found 23 rfl rfl) rfl ?_
            refine lv_icmp_gt C.1 C.2.1 (zda zDX7_found 24 rfl rfl) (tgt := 36) (by decide) (fun h24 => ?_) (fun h24 => ?_)
            · rw [Int32.lt_iff_toInt_lt, show (Int32.ofInt 1).toInt = 1 by decide] at h24
              refine lv_iconst C.1 C.2.1 (zda zDX7_found 36 rfl rfl) rfl ?_
              exact hret 37 ls (some _) _ _ _ _ _ (Or.inl ⟨_, .int, rfl, rfl, rfl, (zda zDX7_found 37 rfl rfl)⟩) hv (⟨Or.inr ⟨by omega, rfl, hF⟩, fun k j hk => rfl, rfl, rfl⟩)
            · rw [Int32.lt_iff_toInt_lt, show (Int32.ofInt 1).toInt = 1 by decide] at h24
              refine lv_aload_n C.1 C.2.1 (zda zDX7_found 27 rfl rfl) rfl (lv_at hlv 0 rfl) ?_
              refine zV_get C (zda zDX7_found 28 rfl rfl) (show vwCl[7]? = some (RX7, TX7, 16) from rfl) zinX7 (by decide) zw436 hv zvk0 (show 0 < 126 by decide) rfl (j := 13) hF ?_
              refine lv_bipush C.1 C.2.1 (zda zDX7_found 31 rfl rfl) rfl ?_
              refine lv_icmp_lt C.1 C.2.1 (zda zDX7_found 33 rfl rfl) (tgt := 38) (by decide) (fun h33 => ?_) (fun h33 => ?_)
              · rw [zi12, zolt (by omega) (by decide)] at h33
                refine lv_aload_n C.1 C.2.1 (zda zDX7_found 38 rfl rfl) rfl (lv_at hlv 0 rfl) ?_
                refine zV_get C (zda zDX7_found 39 rfl rfl) (show vwCl[7]? = some (RX7, TX7, 16) from rfl) zinX7 (by decide) zw433 hv zvk0 (show 0 < 126 by decide) rfl (j := 10) (zV_ref hv zvk0 (show 0 < 126 by decide) rfl) ?_
                refine lv_aload_n C.1 C.2.1 (zda zDX7_found 42 rfl rfl) rfl (lv_at hlv 0 rfl) ?_
                refine zV_get C (zda zDX7_found 43 rfl rfl) (show vwCl[7]? = some (RX7, TX7, 16) from rfl) zinX7 (by decide) zw436 hv zvk0 (show 0 < 126 by decide) rfl (j := 13) hF ?_
                refine lv_iload_n C.1 C.2.1 (zda zDX7_found 46 rfl rfl) rfl (lv_at hlv 1 rfl) ?_
                refine zV_st0 C (zda zDX7_found 47 rfl rfl) hv zvk80 (show 80 < 126 by decide) (i := n) (hn9) (by omega) (zelr_ok zve80 (by omega) (by show (0 : Int) ≤ _; omega) (by show _ ≤ (7 : Int); omega)) (fun ws H locs hv => ?_)
                refine lv_aload_n C.1 C.2.1 (zda zDX7_found 48 rfl rfl) rfl (lv_at hlv 0 rfl) ?_
                refine zV_get C (zda zDX7_found 49 rfl rfl) (show vwCl[7]? = some (RX7, TX7, 16) from rfl) zinX7 (by decide) zw434 hv zvk0 (show 0 < 126 by decide) rfl (j := 11) (zV_ref hv zvk0 (show 0 < 126 by decide) rfl) ?_
                refine lv_aload_n C.1 C.2.1 (zda zDX7_found 52 rfl rfl) rfl (lv_at hlv 0 rfl) ?_
                refine zV_get C (zda zDX7_found 53 rfl rfl) (show vwCl[7]? = some (RX7, TX7, 16) from rfl) zinX7 (by decide) zw436 hv zvk0 (show 0 < 126 by decide) rfl (j := 13) hF ?_
                refine lv_iload_n C.1 C.2.1 (zda zDX7_found 56 rfl rfl) rfl (lv_at hlv 2 rfl) ?_
                refine zV_st0 C (zda zDX7_found 57 rfl rfl) hv zvk81 (show 81 < 126 by decide) (i := n) (hn9) (by omega) (zelr_ok zve81 (by omega) (by show (0 : Int) ≤ _; omega) (by show _ ≤ (7 : Int); omega)) (fun ws H locs hv => ?_)
                refine lv_aload_n C.1 C.2.1 (zda zDX7_found 58 rfl rfl) rfl (lv_at hlv 0 rfl) ?_
                refine zV_get C (zda zDX7_found 59 rfl rfl) (show vwCl[7]? = some (RX7, TX7, 16) from rfl) zinX7 (by decide) zw435 hv zvk0 (show 0 < 126 by decide) rfl (j := 12) (zV_ref hv zvk0 (show 0 < 126 by decide) rfl) ?_
                refine lv_aload_n C.1 C.2.1 (zda zDX7_found 62 rfl rfl) rfl (lv_at hlv 0 rfl) ?_
                refine zV_get C (zda zDX7_found 63 rfl rfl) (show vwCl[7]? = some (RX7, TX7, 16) from rfl) zinX7 (by decide) zw436 hv zvk0 (show 0 < 126 by decide) rfl (j := 13) hF ?_
                refine lv_iload_n C.1 C.2.1 (zda zDX7_found 66 rfl rfl) rfl (lv_at hlv 3 rfl) ?_
                refine zV_st0 C (zda zDX7_found 67 rfl rfl) hv zvk82 (show 82 < 126 by decide) (i := n) (hn9) (by omega) (zelr_ok zve82 (by omega) (by show (0 : Int) ≤ _; omega) (by show _ ≤ (1 : Int); omega)) (fun ws H locs hv => ?_)
                refine lv_aload_n C.1 C.2.1 (zda zDX7_found 68 rfl rfl) rfl (lv_at hlv 0 rfl) ?_
                refine lv_dup C.1 C.2.1 (zda zDX7_found 69 rfl rfl) rfl ?_
                refine zV_get C (zda zDX7_found 70 rfl rfl) (show vwCl[7]? = some (RX7, TX7, 16) from rfl) zinX7 (by decide) zw436 hv zvk0 (show 0 < 126 by decide) rfl (j := 13) hF ?_
                refine lv_iconst C.1 C.2.1 (zda zDX7_found 73 rfl rfl) rfl ?_
                refine lv_iadd C.1 C.2.1 (zda zDX7_found 74 rfl rfl) ?_
                rw [zsuc (show n < 1000 by omega)]
                have hn1 := zon (show n + 1 < 1000 by omega)
                refine zV_puti C (zda zDX7_found 75 rfl rfl) (show vwCl[7]? = some (RX7, TX7, 16) from rfl) zinX7 tyX7 tyX7_ok nmX7 (j := 13) (by decide) zw436 rfl (by decide +kernel) hv zvk0 (show 0 < 126 by decide) rfl ⟨by show (0 : Int) ≤ _; omega, by show _ ≤ (12 : Int); omega⟩ (fun ws H locs hv => ?_)
                refine lv_aload_n C.1 C.2.1 (zda zDX7_found 78 rfl rfl) rfl (lv_at hlv 0 rfl) ?_
                refine zV_get C (zda zDX7_found 79 rfl rfl) (show vwCl[7]? = some (RX7, TX7, 16) from rfl) zinX7 (by decide) zw436 hv zvk0 (show 0 < 126 by decide) rfl (j := 13) rfl ?_
                exact hret 82 ls (some _) _ _ _ _ _ (Or.inl ⟨_, .int, rfl, rfl, rfl, (zda zDX7_found 82 rfl rfl)⟩) hv (⟨Or.inl ⟨⟨q1, q2, by omega, h33⟩, rfl, rfl⟩, fun k j hk => zuv_n hk, rfl, rfl⟩)
              · rw [zi12, zolt (by omega) (by decide)] at h33
                refine lv_iconst C.1 C.2.1 (zda zDX7_found 36 rfl rfl) rfl ?_
                exact hret 37 ls (some _) _ _ _ _ _ (Or.inl ⟨_, .int, rfl, rfl, rfl, (zda zDX7_found 37 rfl rfl)⟩) hv (⟨Or.inr ⟨by omega, rfl, hF⟩, fun k j hk => rfl, rfl, rfl⟩)
      · refine zV_callN C (zc_hasF hM hc q2) rfl rfl (by decide) (by decide) (show vwCl[0]? = some (RX0, TX0, 12) from rfl) zw550 (fun U H h => zn46 h) zw549 zs23 zw3 (n := 1) (by decide +kernel) (zda zDX7_found 12 rfl rfl) rfl zvk3 (show 3 < 126 by decide) hv hlv.1 (by show 0 ≤ 8; decide) (Nat.zero_le _) (Nat.zero_le _) (fun v f9 g9 ws H locs hp hv => ?_)
        obtain ⟨rfl, rfl, rfl⟩ := hp
        refine lv_if_eq C.1 C.2.1 (zda zDX7_found 15 rfl rfl) (tgt := 36) (by decide) (fun h15 => ?_) (fun h15 => ?_)
        · refine lv_iconst C.1 C.2.1 (zda zDX7_found 36 rfl rfl) rfl ?_
          exact hret 37 ls (some _) _ _ _ _ _ (Or.inl ⟨_, .int, rfl, rfl, rfl, (zda zDX7_found 37 rfl rfl)⟩) hv (⟨Or.inr ⟨by omega, rfl, hF⟩, fun k j hk => rfl, rfl, rfl⟩)
        · exact absurd rfl h15
  · refine zV_callS C (zc_ishF q1) rfl rfl (by decide) (by decide) zw553 zw551 zw552 zw1 (n := 1) (by decide +kernel) (zda zDX7_found 1 rfl rfl) rfl hv hlv.1 (by show 0 ≤ 8; decide) (Nat.zero_le _) (Nat.zero_le _) (fun v f9 g9 ws H locs hp hv => ?_)
    obtain ⟨rfl, rfl, rfl⟩ := hp
    refine lv_if_eq C.1 C.2.1 (zda zDX7_found 4 rfl rfl) (tgt := 36) (by decide) (fun h4 => ?_) (fun h4 => ?_)
    · refine lv_iconst C.1 C.2.1 (zda zDX7_found 36 rfl rfl) rfl ?_
      exact hret 37 ls (some _) _ _ _ _ _ (Or.inl ⟨_, .int, rfl, rfl, rfl, (zda zDX7_found 37 rfl rfl)⟩) hv (⟨Or.inr ⟨by omega, rfl, hF⟩, fun k j hk => rfl, rfl, rfl⟩)
    · exact absurd rfl h4
set_option maxHeartbeats 8000000 in
theorem zr_found {x1 x2 x3 : Int32} {c n : Nat} (hM : f 94 3 = .int (Int32.ofNat c)) (hc : c ≤ 8) (hF : f 94 45 = .int (Int32.ofNat n)) (hn : n ≤ 12) : zCt l0 D tys o z zyI b mX8_found 10 1000 [.ref (b 94), .int x1, .int x2, .int x3] f g (fun v f' g' => ((((0 ≤ x1.toInt ∧ x1.toInt ≤ 7) ∧ (0 ≤ x2.toInt ∧ x2.toInt < (c : Int)) ∧ (0 ≤ x3.toInt ∧ x3.toInt ≤ 1) ∧ n < 12) ∧ v = some (.int (Int32.ofNat (n + 1))) ∧ f' 94 45 = .int (Int32.ofNat (n + 1))) ∨ (¬ ((0 ≤ x1.toInt ∧ x1.toInt ≤ 7) ∧ (0 ≤ x2.toInt ∧ x2.toInt < (c : Int)) ∧ (0 ≤ x3.toInt ∧ x3.toInt ≤ 1) ∧ n < 12) ∧ v = some (.int (Int32.ofInt (-1))) ∧ f' 94 45 = .int (Int32.ofNat n))) ∧ (∀ k j, ¬ (k = 94 ∧ (j = 11 ∨ j = 44 ∨ j = 45)) → f' k j = f k j) ∧ g' 2 = g 2 ∧ g' 99 = g 99) := by
  refine zCt_of (mr := mX8_found) (by decide) (by decide) (by decide) (show 4 ≤ 4 by decide) rfl rfl ?_
  intro p e s m below meth c0 Q ls ws C hret hv hlv
  replace C : zCx p { frames := 10, cells := 0, slots := 0, locals := 1000 } s m ([.ref (b 94), .int x1, .int x2, .int x3] : List Value).toArray meth c0 D vwCl tys z (zXX o z) zTs RX8 cX8_found 4 "found" := C
  have hlv : lv_has ls 4 [(0, .ref (b 94)), (1, .int x1), (2, .int x2), (3, .int x3)] := hlv
  have hn9 := zon (show n < 1000 by omega)
  refine lv_aload_n C.1 C.2.1 (zda zDX8_found 0 rfl rfl) rfl (lv_at hlv 0 rfl) ?_
  refine lv_iconst C.1 C.2.1 (zda zDX8_found 1 rfl rfl) rfl ?_
  refine zV_puti C (zda zDX8_found 2 rfl rfl) (show vwCl[8]? = some (RX8, TX8, 51) from rfl) zinX8 tyX8 tyX8_ok nmX8 (j := 11) (by decide) zw1183 rfl (by decide +kernel) hv zvk94 (show 94 < 126 by decide) rfl ⟨by show (0 : Int) ≤ _; decide, by show _ ≤ (1 : Int); decide⟩ (fun ws H locs hv => ?_)
  refine lv_iload_n C.1 C.2.1 (zda zDX8_found 5 rfl rfl) rfl (lv_at hlv 1 rfl) ?_
  by_cases q1 : 0 ≤ x1.toInt ∧ x1.toInt ≤ 7
  · refine zV_callS C (zr_ishT q1) rfl rfl (by decide) (by decide) zw1434 zw1432 zw1433 zw16 (n := 1) (by decide +kernel) (zda zDX8_found 6 rfl rfl) rfl hv hlv.1 (by show 0 ≤ 8; decide) (Nat.zero_le _) (Nat.zero_le _) (fun v f9 g9 ws H locs hp hv => ?_)
    obtain ⟨rfl, rfl, rfl⟩ := hp
    refine lv_if_eq C.1 C.2.1 (zda zDX8_found 9 rfl rfl) (tgt := 38) (by decide) (fun h9 => ?_) (fun h9 => ?_)
    · exact absurd h9 (by decide)
    · refine lv_aload_n C.1 C.2.1 (zda zDX8_found 12 rfl rfl) rfl (lv_at hlv 0 rfl) ?_
      refine lv_iload_n C.1 C.2.1 (zda zDX8_found 13 rfl rfl) rfl (lv_at hlv 2 rfl) ?_
      by_cases q2 : 0 ≤ x2.toInt ∧ x2.toInt < (c : Int)
      · refine zV_callV C (zr_man1T (f := zuv f 94 11 (.int (Int32.ofInt 0))) hM hc q2) rfl rfl (by decide) (by decide) (show vwCl[8]? = some (RX8, TX8, 51) from rfl) zw1419 zw1416 zw1418 zs112 zw16 (n := 1) (by decide +kernel) (zda zDX8_found 14 rfl rfl) rfl zvk94 (show 94 < 126 by decide) hv hlv.1 (by show 0 ≤ 8; decide) (Nat.zero_le _) (Nat.zero_le _) (fun v f9 g9 ws H locs hp hv => ?_)
        obtain ⟨rfl, rfl, rfl⟩ := hp
        refine lv_if_eq C.1 C.2.1 (zda zDX8_found 17 rfl rfl) (tgt := 38) (by decide) (fun h17 => ?_) (fun h17 => ?_)
        · exact absurd h17 (by decide)
        · refine lv_iload_n C.1 C.2.1 (zda zDX8_found 20 rfl rfl) rfl (lv_at hlv 3 rfl) ?_
          refine lv_iconst C.1 C.2.1 (zda zDX8_found 21 rfl rfl) rfl ?_
          refine lv_iconst C.1 C.2.1 (zda zDX8_found 22 rfl rfl) rfl ?_
          by_cases q3 : 0 ≤ x3.toInt ∧ x3.toInt ≤ 1
          · refine zV_callS C (zr_inT (by rw [Int32.lt_iff_toInt_lt, show (Int32.ofInt 0).toInt = 0 by decide]; omega) (by rw [Int32.lt_iff_toInt_lt, show (Int32.ofInt 1).toInt = 1 by decide]; omega)) rfl rfl (by decide) (by decide) zw1336 zw1334 zw1335 zw16 (n := 3) (by decide +kernel) (zda zDX8_found 23 rfl rfl) rfl hv hlv.1 (by show 0 ≤ 8; decide) (Nat.zero_le _) (Nat.zero_le _) (fun v f9 g9 ws H locs hp hv => ?_)
            obtain ⟨rfl, rfl, rfl⟩ := hp
            refine lv_if_eq C.1 C.2.1 (zda zDX8_found 26 rfl rfl) (tgt := 38) (by decide) (fun h26 => ?_) (fun h26 => ?_)
            · exact absurd h26 (by decide)
            · refine lv_aload_n C.1 C.2.1 (zda zDX8_found 29 rfl rfl) rfl (lv_at hlv 0 rfl) ?_
              refine zV_get C (zda zDX8_found 30 rfl rfl) (show vwCl[8]? = some (RX8, TX8, 51) from rfl) zinX8 (by decide) zw1217 hv zvk94 (show 94 < 126 by decide) rfl (j := 45) hF ?_
              refine lv_bipush C.1 C.2.1 (zda zDX8_found 33 rfl rfl) rfl ?_
              refine lv_icmp_ne C.1 C.2.1 (zda zDX8_found 35 rfl rfl) (tgt := 40) (by decide) (fun h35 => ?_) (fun h35 => ?_)
              · have hn12 : n < 12 := by
                  rcases Nat.lt_or_ge n 12 with h | h
                  · exact h
                  · exact absurd (by rw [zi12, show n = 12 by omega]) h35
                obtain ⟨xb, hxb, -⟩ := zV_int hv zvk94 (show 94 < 126 by decide) (j := 44) rfl
                refine lv_aload_n C.1 C.2.1 (zda zDX8_found 40 rfl rfl) rfl (lv_at hlv 0 rfl) ?_
                refine zV_get C (zda zDX8_found 41 rfl rfl) (show vwCl[8]? = some (RX8, TX8, 51) from rfl) zinX8 (by decide) zw1214 hv zvk94 (show 94 < 126 by decide) rfl (j := 42) (zV_ref hv zvk94 (show 94 < 126 by decide) rfl) ?_
                refine lv_aload_n C.1 C.2.1 (zda zDX8_found 44 rfl rfl) rfl (lv_at hlv 0 rfl) ?_
                refine zV_get C (zda zDX8_found 45 rfl rfl) (show vwCl[8]? = some (RX8, TX8, 51) from rfl) zinX8 (by decide) zw1217 hv zvk94 (show 94 < 126 by decide) rfl (j := 45) hF ?_
                refine lv_iload_n C.1 C.2.1 (zda zDX8_found 48 rfl rfl) rfl (lv_at hlv 1 rfl) ?_
                refine zV_st0 C (zda zDX8_found 49 rfl rfl) hv zvk120 (show 120 < 126 by decide) (i := n) (hn9) (by omega) (zelr_ok zve120 (by omega) (by show (0 : Int) ≤ _; omega) (by show _ ≤ (7 : Int); omega)) (fun ws H locs hv => ?_)
                refine lv_aload_n C.1 C.2.1 (zda zDX8_found 50 rfl rfl) rfl (lv_at hlv 0 rfl) ?_
                refine zV_get C (zda zDX8_found 51 rfl rfl) (show vwCl[8]? = some (RX8, TX8, 51) from rfl) zinX8 (by decide) zw1215 hv zvk94 (show 94 < 126 by decide) rfl (j := 43) (zV_ref hv zvk94 (show 94 < 126 by decide) rfl) ?_
                refine lv_aload_n C.1 C.2.1 (zda zDX8_found 54 rfl rfl) rfl (lv_at hlv 0 rfl) ?_
                refine zV_get C (zda zDX8_found 55 rfl rfl) (show vwCl[8]? = some (RX8, TX8, 51) from rfl) zinX8 (by decide) zw1217 hv zvk94 (show 94 < 126 by decide) rfl (j := 45) hF ?_
                refine lv_iload_n C.1 C.2.1 (zda zDX8_found 58 rfl rfl) rfl (lv_at hlv 2 rfl) ?_
                refine zV_st0 C (zda zDX8_found 59 rfl rfl) hv zvk121 (show 121 < 126 by decide) (i := n) (hn9) (by omega) (zelr_ok zve121 (by omega) (by show (0 : Int) ≤ _; omega) (by show _ ≤ (7 : Int); omega)) (fun ws H locs hv => ?_)
                refine lv_aload_n C.1 C.2.1 (zda zDX8_found 60 rfl rfl) rfl (lv_at hlv 0 rfl) ?_
                refine lv_aload_n C.1 C.2.1 (zda zDX8_found 61 rfl rfl) rfl (lv_at hlv 0 rfl) ?_
                refine zV_get C (zda zDX8_found 62 rfl rfl) (show vwCl[8]? = some (RX8, TX8, 51) from rfl) zinX8 (by decide) zw1216 hv zvk94 (show 94 < 126 by decide) rfl (j := 44) hxb ?_
                refine lv_iconst C.1 C.2.1 (zda zDX8_found 65 rfl rfl) rfl ?_
                refine lv_aload_n C.1 C.2.1 (zda zDX8_found 66 rfl rfl) rfl (lv_at hlv 0 rfl) ?_
                refine zV_get C (zda zDX8_found 67 rfl rfl) (show vwCl[8]? = some (RX8, TX8, 51) from rfl) zinX8 (by decide) zw1217 hv zvk94 (show 94 < 126 by decide) rfl (j := 45) hF ?_
                refine lv_ishl C.1 C.2.1 (zda zDX8_found 70 rfl rfl) ?_
                refine lv_iconst C.1 C.2.1 (zda zDX8_found 71 rfl rfl) rfl ?_
                refine lv_ixor C.1 C.2.1 (zda zDX8_found 72 rfl rfl) ?_
                refine lv_iand C.1 C.2.1 (zda zDX8_found 73 rfl rfl) ?_
                refine lv_iload_n C.1 C.2.1 (zda zDX8_found 74 rfl rfl) rfl (lv_at hlv 3 rfl) ?_
                refine lv_aload_n C.1 C.2.1 (zda zDX8_found 75 rfl rfl) rfl (lv_at hlv 0 rfl) ?_
                refine zV_get C (zda zDX8_found 76 rfl rfl) (show vwCl[8]? = some (RX8, TX8, 51) from rfl) zinX8 (by decide) zw1217 hv zvk94 (show 94 < 126 by decide) rfl (j := 45) hF ?_
                refine lv_ishl C.1 C.2.1 (zda zDX8_found 79 rfl rfl) ?_
                refine lv_ior C.1 C.2.1 (zda zDX8_found 80 rfl rfl) ?_
                refine zV_puti C (zda zDX8_found 81 rfl rfl) (show vwCl[8]? = some (RX8, TX8, 51) from rfl) zinX8 tyX8 tyX8_ok nmX8 (j := 44) (by decide) zw1216 rfl (by decide +kernel) hv zvk94 (show 94 < 126 by decide) rfl ⟨by show (-2147483648 : Int) ≤ _; exact (z32 _).1, by show _ ≤ (2147483647 : Int); exact (z32 _).2⟩ (fun ws H locs hv => ?_)
                refine lv_aload_n C.1 C.2.1 (zda zDX8_found 84 rfl rfl) rfl (lv_at hlv 0 rfl) ?_
                refine lv_dup C.1 C.2.1 (zda zDX8_found 85 rfl rfl) rfl ?_
                refine zV_get C (zda zDX8_found 86 rfl rfl) (show vwCl[8]? = some (RX8, TX8, 51) from rfl) zinX8 (by decide) zw1217 hv zvk94 (show 94 < 126 by decide) rfl (j := 45) hF ?_
                refine lv_iconst C.1 C.2.1 (zda zDX8_found 89 rfl rfl) rfl ?_
                refine lv_iadd C.1 C.2.1 (zda zDX8_found 90 rfl rfl) ?_
                rw [zsuc (show n < 1000 by omega)]
                have hn1 := zon (show n + 1 < 1000 by omega)
                refine zV_puti C (zda zDX8_found 91 rfl rfl) (show vwCl[8]? = some (RX8, TX8, 51) from rfl) zinX8 tyX8 tyX8_ok nmX8 (j := 45) (by decide) zw1217 rfl (by decide +kernel) hv zvk94 (show 94 < 126 by decide) rfl ⟨by show (0 : Int) ≤ _; omega, by show _ ≤ (12 : Int); omega⟩ (fun ws H locs hv => ?_)
                refine lv_aload_n C.1 C.2.1 (zda zDX8_found 94 rfl rfl) rfl (lv_at hlv 0 rfl) ?_
                refine zV_get C (zda zDX8_found 95 rfl rfl) (show vwCl[8]? = some (RX8, TX8, 51) from rfl) zinX8 (by decide) zw1217 hv zvk94 (show 94 < 126 by decide) rfl (j := 45) rfl ?_
                exact hret 98 ls (some _) _ _ _ _ _ (Or.inl ⟨_, .int, rfl, rfl, rfl, (zda zDX8_found 98 rfl rfl)⟩) hv (⟨Or.inl ⟨⟨q1, q2, q3, hn12⟩, rfl, rfl⟩, fun k j hk => (zuv_n (by omega)).trans ((zuv_n (by omega)).trans (zuv_n (by omega))), rfl, rfl⟩)
              · have hn12 : n = 12 := by
                  rw [zi12] at h35
                  exact zoe (by omega) (by decide) h35
                refine lv_iconst C.1 C.2.1 (zda zDX8_found 38 rfl rfl) rfl ?_
                exact hret 39 ls (some _) _ _ _ _ _ (Or.inl ⟨_, .int, rfl, rfl, rfl, (zda zDX8_found 39 rfl rfl)⟩) hv (⟨Or.inr ⟨by omega, rfl, hF⟩, fun k j hk => zuv_n (by omega), rfl, rfl⟩)
          · refine zV_callS C (zr_inF (by rw [Int32.lt_iff_toInt_lt, Int32.lt_iff_toInt_lt, show (Int32.ofInt 0).toInt = 0 by decide, show (Int32.ofInt 1).toInt = 1 by decide]; omega)) rfl rfl (by decide) (by decide) zw1336 zw1334 zw1335 zw16 (n := 3) (by decide +kernel) (zda zDX8_found 23 rfl rfl) rfl hv hlv.1 (by show 0 ≤ 8; decide) (Nat.zero_le _) (Nat.zero_le _) (fun v f9 g9 ws H locs hp hv => ?_)
            obtain ⟨rfl, rfl, rfl⟩ := hp
            refine lv_if_eq C.1 C.2.1 (zda zDX8_found 26 rfl rfl) (tgt := 38) (by decide) (fun h26 => ?_) (fun h26 => ?_)
            · refine lv_iconst C.1 C.2.1 (zda zDX8_found 38 rfl rfl) rfl ?_
              exact hret 39 ls (some _) _ _ _ _ _ (Or.inl ⟨_, .int, rfl, rfl, rfl, (zda zDX8_found 39 rfl rfl)⟩) hv (⟨Or.inr ⟨by omega, rfl, hF⟩, fun k j hk => zuv_n (by omega), rfl, rfl⟩)
            · exact absurd rfl h26
      · refine zV_callV C (zr_man1F (f := zuv f 94 11 (.int (Int32.ofInt 0))) hM hc q2) rfl rfl (by decide) (by decide) (show vwCl[8]? = some (RX8, TX8, 51) from rfl) zw1419 zw1416 zw1418 zs112 zw16 (n := 1) (by decide +kernel) (zda zDX8_found 14 rfl rfl) rfl zvk94 (show 94 < 126 by decide) hv hlv.1 (by show 0 ≤ 8; decide) (Nat.zero_le _) (Nat.zero_le _) (fun v f9 g9 ws H locs hp hv => ?_)
        obtain ⟨rfl, rfl, rfl⟩ := hp
        refine lv_if_eq C.1 C.2.1 (zda zDX8_found 17 rfl rfl) (tgt := 38) (by decide) (fun h17 => ?_) (fun h17 => ?_)
        · refine lv_iconst C.1 C.2.1 (zda zDX8_found 38 rfl rfl) rfl ?_
          exact hret 39 ls (some _) _ _ _ _ _ (Or.inl ⟨_, .int, rfl, rfl, rfl, (zda zDX8_found 39 rfl rfl)⟩) hv (⟨Or.inr ⟨by omega, rfl, hF⟩, fun k j hk => zuv_n (by omega), rfl, rfl⟩)
        · exact absurd rfl h17
  · refine zV_callS C (zr_ishF q1) rfl rfl (by decide) (by decide) zw1434 zw1432 zw1433 zw16 (n := 1) (by decide +kernel) (zda zDX8_found 6 rfl rfl) rfl hv hlv.1 (by show 0 ≤ 8; decide) (Nat.zero_le _) (Nat.zero_le _) (fun v f9 g9 ws H locs hp hv => ?_)
    obtain ⟨rfl, rfl, rfl⟩ := hp
    refine lv_if_eq C.1 C.2.1 (zda zDX8_found 9 rfl rfl) (tgt := 38) (by decide) (fun h9 => ?_) (fun h9 => ?_)
    · refine lv_iconst C.1 C.2.1 (zda zDX8_found 38 rfl rfl) rfl ?_
      exact hret 39 ls (some _) _ _ _ _ _ (Or.inl ⟨_, .int, rfl, rfl, rfl, (zda zDX8_found 39 rfl rfl)⟩) hv (⟨Or.inr ⟨by omega, rfl, hF⟩, fun k j hk => zuv_n (by omega), rfl, rfl⟩)
    · exact absurd rfl h9
theorem zc_forget {n : Nat} (hF : f 0 13 = .int (Int32.ofNat n)) : zCt l0 D tys o z zyI b mX7_forget 2 300 [.ref (b 0)] f g (fun v f' g' => v = some (.int (Int32.ofNat n)) ∧ f' = zuv f 0 13 (.int (Int32.ofInt 0)) ∧ g = g') := by
  refine zCt_of (mr := mX7_forget) (by decide) (by decide) (by decide) (show 1 ≤ 2 by decide) rfl rfl ?_
  intro p e s m below meth c0 Q ls ws C hret hv hlv
  replace C : zCx p { frames := 2, cells := 0, slots := 0, locals := 300 } s m ([.ref (b 0)] : List Value).toArray meth c0 D vwCl tys z (zXX o z) zTs RX7 cX7_forget 2 "forget" := C
  have hlv : lv_has ls 2 [(0, .ref (b 0))] := hlv
  refine lv_aload_n C.1 C.2.1 (zda zDX7_forget 0 rfl rfl) rfl (lv_at hlv 0 rfl) ?_
  refine zV_get C (zda zDX7_forget 1 rfl rfl) (show vwCl[7]? = some (RX7, TX7, 16) from rfl) zinX7 (by decide) zw436 hv zvk0 (show 0 < 126 by decide) rfl (j := 13) hF ?_
  refine lv_istore_n C.1 C.2.1 (zda zDX7_forget 4 rfl rfl) rfl hlv (lv' := [(1, .int (Int32.ofNat n)), (0, .ref (b 0))]) (by decide) rfl (fun ls hlv => ?_)
  refine lv_aload_n C.1 C.2.1 (zda zDX7_forget 5 rfl rfl) rfl (lv_at hlv 1 rfl) ?_
  refine lv_iconst C.1 C.2.1 (zda zDX7_forget 6 rfl rfl) rfl ?_
  refine zV_puti C (zda zDX7_forget 7 rfl rfl) (show vwCl[7]? = some (RX7, TX7, 16) from rfl) zinX7 tyX7 tyX7_ok nmX7 (j := 13) (by decide) zw436 rfl (by decide +kernel) hv zvk0 (show 0 < 126 by decide) rfl ⟨by show (0 : Int) ≤ _; decide, by show _ ≤ (12 : Int); decide⟩ (fun ws H locs hv => ?_)
  refine lv_iload_n C.1 C.2.1 (zda zDX7_forget 10 rfl rfl) rfl (lv_at hlv 0 rfl) ?_
  exact hret 11 ls (some _) _ _ _ _ _ (Or.inl ⟨_, .int, rfl, rfl, rfl, (zda zDX7_forget 11 rfl rfl)⟩) hv (⟨rfl, rfl, rfl⟩)
theorem zr_forget {n : Nat} (hF : f 94 45 = .int (Int32.ofNat n)) : zCt l0 D tys o z zyI b mX8_forget 2 300 [.ref (b 94)] f g (fun v f' g' => v = some (.int (Int32.ofNat n)) ∧ f' = zuv (zuv f 94 11 (.int (Int32.ofInt 0))) 94 45 (.int (Int32.ofInt 0)) ∧ g = g') := by
  refine zCt_of (mr := mX8_forget) (by decide) (by decide) (by decide) (show 1 ≤ 2 by decide) rfl rfl ?_
  intro p e s m below meth c0 Q ls ws C hret hv hlv
  replace C : zCx p { frames := 2, cells := 0, slots := 0, locals := 300 } s m ([.ref (b 94)] : List Value).toArray meth c0 D vwCl tys z (zXX o z) zTs RX8 cX8_forget 2 "forget" := C
  have hlv : lv_has ls 2 [(0, .ref (b 94))] := hlv
  refine lv_aload_n C.1 C.2.1 (zda zDX8_forget 0 rfl rfl) rfl (lv_at hlv 0 rfl) ?_
  refine lv_iconst C.1 C.2.1 (zda zDX8_forget 1 rfl rfl) rfl ?_
  refine zV_puti C (zda zDX8_forget 2 rfl rfl) (show vwCl[8]? = some (RX8, TX8, 51) from rfl) zinX8 tyX8 tyX8_ok nmX8 (j := 11) (by decide) zw1183 rfl (by decide +kernel) hv zvk94 (show 94 < 126 by decide) rfl ⟨by show (0 : Int) ≤ _; decide, by show _ ≤ (1 : Int); decide⟩ (fun ws H locs hv => ?_)
  refine lv_aload_n C.1 C.2.1 (zda zDX8_forget 5 rfl rfl) rfl (lv_at hlv 0 rfl) ?_
  refine zV_get C (zda zDX8_forget 6 rfl rfl) (show vwCl[8]? = some (RX8, TX8, 51) from rfl) zinX8 (by decide) zw1217 hv zvk94 (show 94 < 126 by decide) rfl (j := 45) hF ?_
  refine lv_istore_n C.1 C.2.1 (zda zDX8_forget 9 rfl rfl) rfl hlv (lv' := [(1, .int (Int32.ofNat n)), (0, .ref (b 94))]) (by decide) rfl (fun ls hlv => ?_)
  refine lv_aload_n C.1 C.2.1 (zda zDX8_forget 10 rfl rfl) rfl (lv_at hlv 1 rfl) ?_
  refine lv_iconst C.1 C.2.1 (zda zDX8_forget 11 rfl rfl) rfl ?_
  refine zV_puti C (zda zDX8_forget 12 rfl rfl) (show vwCl[8]? = some (RX8, TX8, 51) from rfl) zinX8 tyX8 tyX8_ok nmX8 (j := 45) (by decide) zw1217 rfl (by decide +kernel) hv zvk94 (show 94 < 126 by decide) rfl ⟨by show (0 : Int) ≤ _; decide, by show _ ≤ (12 : Int); decide⟩ (fun ws H locs hv => ?_)
  refine lv_iload_n C.1 C.2.1 (zda zDX8_forget 15 rfl rfl) rfl (lv_at hlv 0 rfl) ?_
  exact hret 16 ls (some _) _ _ _ _ _ (Or.inl ⟨_, .int, rfl, rfl, rfl, (zda zDX8_forget 16 rfl rfl)⟩) hv (⟨rfl, rfl, rfl⟩)
end ZFND
section ZRND2
variable {p : Program} {l : Launch} {e : Env} {s : State} {m : MethodId} {below : List Frame} {meth : Method} {c0 : Code} {b : Nat} {D : va_G} {tys : List (ClassId × FieldType)} {o : zO} {z : Nat} {nm : String} {L : Nat} {xs : Nat → Int32}
set_option maxHeartbeats 8000000 in
theorem zsp_forget (E : zEnv tys) (C : zCx p room_1 s m #[Value.ref b] meth c0 D vwCl tys z (zXX o z) zTs RL cL_law 8 nm) (hX : va_X o.1 L xs s s.heap) (hbl : o.1 < s.heap.size) (hbA : ¬ zA z o.1) (hL : L ≤ 2560) {b1 b2 : zI} : zSpec p l e s m b below meth c0 D tys o z L xs zyI zyT3 (.ofNat 37, .ofNat 37) b1 b2 := by
  intro i K S g ls H locs ws hg h5 hi hK hS hj hm1 hm2 vst S0 hR hn
  obtain ⟨⟨xj, rfl, hxj⟩, hlv, hv⟩ := zop9 hg S0
  obtain ⟨x1, hy1, hy2⟩ := zjp_to hv (hR (zjp (1, 1, 94, 8)) (by unfold zyT3; simp))
  obtain ⟨x3, hM1, hM2⟩ := zjp_to hv (hR (zjp (3, 6, 94, 3)) (by unfold zyT3; simp))
  obtain ⟨-, -, hT⟩ := hR zjT (by unfold zyT3; simp)
  obtain ⟨z0, hE0a, hE0b⟩ := zjp_to hv (hR (zjp (0, 13, 94, 45)) (by unfold zyT3; simp))
  obtain ⟨y1, e1, r1⟩ := zV_int hv zvk94 (show 94 < 126 by decide) (j := 8) rfl
  obtain ⟨y3, e3, r3⟩ := zV_int hv zvk94 (show 94 < 126 by decide) (j := 3) rfl
  rw [hy2] at e1
  rw [hM2] at e3
  cases e1
  cases e3
  obtain ⟨n, rfl, hn8⟩ := zofI r1 (by decide)
  obtain ⟨c, rfl, hc8⟩ := zofI r3 (by decide)
  obtain ⟨y5, e5, r5⟩ := zV_int hv zvk94 (show 94 < 126 by decide) (j := 45) rfl
  rw [hE0b] at e5
  cases e5
  obtain ⟨nf, rfl, hnf⟩ := zofI r5 (by decide)
  have hnf : nf ≤ 12 := by
    have q : (nf : Int) ≤ 12 := hnf
    omega
  have hn8 : n ≤ 80 := by
    have q : (n : Int) ≤ 80 := hn8
    omega
  have hc8 : c ≤ 8 := by
    have q : (c : Int) ≤ 8 := hc8
    omega
  generalize hfe : zwV ws = f at *
  generalize hge : zwA ws = g0 at *
  generalize hbe : zwB ws = bb at *
  have hxj2 : xj.toInt = 37 := by
    obtain ⟨q1, q2⟩ := hxj
    have q1 : (37 : Int) ≤ xj.toInt := q1
    have q2 : xj.toInt ≤ (37 : Int) := q2
    omega
  refine lv_tableIn C.1 C.2.1 (zdaP zDL0 39 (by decide) rfl rfl) (by rw [hxj2]; decide) (by rw [hxj2]; decide) (off := 1081) (by rw [hxj2]; rfl) (tgt := 1120) (by decide) ?_
  refine lv_aload_n C.1 C.2.1 (zdaP zDL4 1120 (by decide) rfl rfl) rfl (lv_at hlv 2 rfl) ?_
  refine zV_callV C (zc_forget hE0a) rfl rfl (by decide) (by decide) (show vwCl[7]? = some (RX7, TX7, 16) from rfl) zw963 zw960 zw961 zw962 zw1 (n := 0) (by decide +kernel) (zdaP zDL4 1121 (by decide) rfl rfl) rfl zvk0 (show 0 < 126 by decide) hv hlv.1 (by show 0 ≤ 8; decide) (by show 0 + K ≤ 601024; omega) (by show 0 + S ≤ 7293034; omega) (fun v f9 g9 ws H locs hp hv => ?_)
  obtain ⟨rfl, rfl, rfl⟩ := hp
  refine lv_pop C.1 C.2.1 (zdaP zDL4 1124 (by decide) rfl rfl) rfl ?_
  refine lv_aload_n C.1 C.2.1 (zdaP zDL4 1125 (by decide) rfl rfl) rfl (lv_at hlv 3 rfl) ?_
  refine zV_callV C (zr_forget (f := zuv f 0 13 (.int (Int32.ofInt 0))) hE0b) rfl rfl (by decide) (by decide) (show vwCl[8]? = some (RX8, TX8, 51) from rfl) zw1696 zw1693 zw1694 zw1695 zw16 (n := 0) (by decide +kernel) (zdaP zDL4 1126 (by decide) rfl rfl) rfl zvk94 (show 94 < 126 by decide) hv hlv.1 (by show 0 ≤ 8; decide) (by show 0 + K ≤ 601024; omega) (by show 0 + S ≤ 7293034; omega) (fun v f9 g9 ws H locs hp hv => ?_)
  obtain ⟨rfl, rfl, rfl⟩ := hp
  refine lv_pop C.1 C.2.1 (zdaP zDL4 1129 (by decide) rfl rfl) rfl ?_
  refine lv_goto C.1 C.2.1 (zdaP zDL4 1130 (by decide) rfl rfl) (tgt := 1436) (by decide) ?_
  refine lv_iinc C.1 C.2.1 (zdaP zDL5 1436 (by decide) rfl rfl) hlv (k := 0) rfl rfl (by decide) (lv' := [(4, .int ((Int32.ofNat i) + Int32.ofInt 5)), (0, .ref o.1), (1, .ref (bb 0)), (2, .ref (bb 94)), (3, .ref (bb 125))]) rfl (fun ls hlv => ?_)
  rw [zinc5 hi] at hlv
  refine lv_goto C.1 C.2.1 (zdaP zDL5 1439 (by decide) rfl rfl) (tgt := 23) (by decide) ?_
  refine zcl9 (by omega) hn hlv hv ?_
  intro q hq
  unfold zyT3 at hq
  simp only [List.mem_cons, List.not_mem_nil, or_false] at hq
  rcases hq with rfl | rfl | rfl | rfl
  · exact zjp_of hv zvk1 (by decide) rfl zvk94 (by decide) rfl (hy1) (hy2)
  · exact zjT_of hv (hT)
  · exact zjp_of hv zvk3 (by decide) rfl zvk94 (by decide) rfl (hM1) (hM2)
  · exact zjp_of hv zvk0 (by decide) rfl zvk94 (by decide) rfl (x := Int32.ofInt 0) rfl rfl
set_option maxHeartbeats 8000000 in
theorem zsp_found (E : zEnv tys) (C : zCx p room_1 s m #[Value.ref b] meth c0 D vwCl tys z (zXX o z) zTs RL cL_law 8 nm) (hX : va_X o.1 L xs s s.heap) (hbl : o.1 < s.heap.size) (hbA : ¬ zA z o.1) (hL : L ≤ 2560) {b1 b2 : zI} : zSpec p l e s m b below meth c0 D tys o z L xs zyI zyT3 (.ofNat 36, .ofNat 36) b1 b2 := by
  intro i K S g ls H locs ws hg h5 hi hK hS hj hm1 hm2 vst S0 hR hn
  obtain ⟨⟨xj, rfl, hxj⟩, hlv, hv⟩ := zop9 hg S0
  obtain ⟨x1, hy1, hy2⟩ := zjp_to hv (hR (zjp (1, 1, 94, 8)) (by unfold zyT3; simp))
  obtain ⟨x3, hM1, hM2⟩ := zjp_to hv (hR (zjp (3, 6, 94, 3)) (by unfold zyT3; simp))
  obtain ⟨-, -, hT⟩ := hR zjT (by unfold zyT3; simp)
  obtain ⟨z0, hE0a, hE0b⟩ := zjp_to hv (hR (zjp (0, 13, 94, 45)) (by unfold zyT3; simp))
  obtain ⟨y1, e1, r1⟩ := zV_int hv zvk94 (show 94 < 126 by decide) (j := 8) rfl
  obtain ⟨y3, e3, r3⟩ := zV_int hv zvk94 (show 94 < 126 by decide) (j := 3) rfl
  rw [hy2] at e1
  rw [hM2] at e3
  cases e1
  cases e3
  obtain ⟨n, rfl, hn8⟩ := zofI r1 (by decide)
  obtain ⟨c, rfl, hc8⟩ := zofI r3 (by decide)
  obtain ⟨y5, e5, r5⟩ := zV_int hv zvk94 (show 94 < 126 by decide) (j := 45) rfl
  rw [hE0b] at e5
  cases e5
  obtain ⟨nf, rfl, hnf⟩ := zofI r5 (by decide)
  have hnf : nf ≤ 12 := by
    have q : (nf : Int) ≤ 12 := hnf
    omega
  have hn8 : n ≤ 80 := by
    have q : (n : Int) ≤ 80 := hn8
    omega
  have hc8 : c ≤ 8 := by
    have q : (c : Int) ≤ 8 := hc8
    omega
  generalize hfe : zwV ws = f at *
  generalize hge : zwA ws = g0 at *
  generalize hbe : zwB ws = bb at *
  have hxj2 : xj.toInt = 36 := by
    obtain ⟨q1, q2⟩ := hxj
    have q1 : (36 : Int) ≤ xj.toInt := q1
    have q2 : xj.toInt ≤ (36 : Int) := q2
    omega
  refine lv_tableIn C.1 C.2.1 (zdaP zDL0 39 (by decide) rfl rfl) (by rw [hxj2]; decide) (by rw [hxj2]; decide) (off := 1032) (by rw [hxj2]; rfl) (tgt := 1071) (by decide) ?_
  refine lv_aload_n C.1 C.2.1 (zdaP zDL4 1071 (by decide) rfl rfl) rfl (lv_at hlv 2 rfl) ?_
  refine lv_aload_n C.1 C.2.1 (zdaP zDL4 1072 (by decide) rfl rfl) rfl (lv_at hlv 1 rfl) ?_
  refine lv_iload C.1 C.2.1 (zdaP zDL4 1073 (by decide) rfl rfl) (lv_at hlv 0 rfl) ?_
  refine lv_iconst C.1 C.2.1 (zdaP zDL4 1075 (by decide) rfl rfl) rfl ?_
  refine lv_iadd C.1 C.2.1 (zdaP zDL4 1076 (by decide) rfl rfl) ?_
  refine va_sld C.1 C.2.1 hX hbl hbA hv.2.2.2.1 (vp_in_iff.mpr ⟨by rw [show Int32.ofInt 1 = Int32.ofInt ((1 : Nat) : Int) by decide, zsc1 hi (by decide)]; omega, by rw [show Int32.ofInt 1 = Int32.ofInt ((1 : Nat) : Int) by decide, zsc1 hi (by decide)]; omega⟩) (zdaP zDL4 1077 (by decide) rfl rfl) ?_
  refine lv_aload_n C.1 C.2.1 (zdaP zDL4 1078 (by decide) rfl rfl) rfl (lv_at hlv 1 rfl) ?_
  refine lv_iload C.1 C.2.1 (zdaP zDL4 1079 (by decide) rfl rfl) (lv_at hlv 0 rfl) ?_
  refine lv_iconst C.1 C.2.1 (zdaP zDL4 1081 (by decide) rfl rfl) rfl ?_
  refine lv_iadd C.1 C.2.1 (zdaP zDL4 1082 (by decide) rfl rfl) ?_
  refine va_sld C.1 C.2.1 hX hbl hbA hv.2.2.2.1 (vp_in_iff.mpr ⟨by rw [show Int32.ofInt 2 = Int32.ofInt ((2 : Nat) : Int) by decide, zsc1 hi (by decide)]; omega, by rw [show Int32.ofInt 2 = Int32.ofInt ((2 : Nat) : Int) by decide, zsc1 hi (by decide)]; omega⟩) (zdaP zDL4 1083 (by decide) rfl rfl) ?_
  refine lv_aload_n C.1 C.2.1 (zdaP zDL4 1084 (by decide) rfl rfl) rfl (lv_at hlv 1 rfl) ?_
  refine lv_iload C.1 C.2.1 (zdaP zDL4 1085 (by decide) rfl rfl) (lv_at hlv 0 rfl) ?_
  refine lv_iconst C.1 C.2.1 (zdaP zDL4 1087 (by decide) rfl rfl) rfl ?_
  refine lv_iadd C.1 C.2.1 (zdaP zDL4 1088 (by decide) rfl rfl) ?_
  refine va_sld C.1 C.2.1 hX hbl hbA hv.2.2.2.1 (vp_in_iff.mpr ⟨by rw [show Int32.ofInt 3 = Int32.ofInt ((3 : Nat) : Int) by decide, zsc1 hi (by decide)]; omega, by rw [show Int32.ofInt 3 = Int32.ofInt ((3 : Nat) : Int) by decide, zsc1 hi (by decide)]; omega⟩) (zdaP zDL4 1089 (by decide) rfl rfl) ?_
  refine zV_callV C (zc_found (x1 := xs (Int32.ofNat i + Int32.ofInt 1).toNatClampNeg) (x2 := xs (Int32.ofNat i + Int32.ofInt 2).toNatClampNeg) (x3 := xs (Int32.ofNat i + Int32.ofInt 3).toNatClampNeg) hM1 hc8 hE0a hnf) rfl rfl (by decide) (by decide) (show vwCl[7]? = some (RX7, TX7, 16) from rfl) zw959 zw956 zw957 zw958 zw1 (n := 3) (by decide +kernel) (zdaP zDL4 1090 (by decide) rfl rfl) rfl zvk0 (show 0 < 126 by decide) hv hlv.1 (by show 0 ≤ 8; decide) (by show 0 + K ≤ 601024; omega) (by show 0 + S ≤ 7293034; omega) (fun v f9 g9 ws H locs hp hv => ?_)
  obtain ⟨⟨k0, rfl, k1⟩ | ⟨k0, rfl, k1⟩, k2, k3, k4⟩ := hp
  · refine lv_aload_n C.1 C.2.1 (zdaP zDL4 1093 (by decide) rfl rfl) rfl (lv_at hlv 3 rfl) ?_
    refine lv_aload_n C.1 C.2.1 (zdaP zDL4 1094 (by decide) rfl rfl) rfl (lv_at hlv 1 rfl) ?_
    refine lv_iload C.1 C.2.1 (zdaP zDL4 1095 (by decide) rfl rfl) (lv_at hlv 0 rfl) ?_
    refine lv_iconst C.1 C.2.1 (zdaP zDL4 1097 (by decide) rfl rfl) rfl ?_
    refine lv_iadd C.1 C.2.1 (zdaP zDL4 1098 (by decide) rfl rfl) ?_
    refine va_sld C.1 C.2.1 hX hbl hbA hv.2.2.2.1 (vp_in_iff.mpr ⟨by rw [show Int32.ofInt 1 = Int32.ofInt ((1 : Nat) : Int) by decide, zsc1 hi (by decide)]; omega, by rw [show Int32.ofInt 1 = Int32.ofInt ((1 : Nat) : Int) by decide, zsc1 hi (by decide)]; omega⟩) (zdaP zDL4 1099 (by decide) rfl rfl) ?_
    refine lv_aload_n C.1 C.2.1 (zdaP zDL4 1100 (by decide) rfl rfl) rfl (lv_at hlv 1 rfl) ?_
    refine lv_iload C.1 C.2.1 (zdaP zDL4 1101 (by decide) rfl rfl) (lv_at hlv 0 rfl) ?_
    refine lv_iconst C.1 C.2.1 (zdaP zDL4 1103 (by decide) rfl rfl) rfl ?_
    refine lv_iadd C.1 C.2.1 (zdaP zDL4 1104 (by decide) rfl rfl) ?_
    refine va_sld C.1 C.2.1 hX hbl hbA hv.2.2.2.1 (vp_in_iff.mpr ⟨by rw [show Int32.ofInt 2 = Int32.ofInt ((2 : Nat) : Int) by decide, zsc1 hi (by decide)]; omega, by rw [show Int32.ofInt 2 = Int32.ofInt ((2 : Nat) : Int) by decide, zsc1 hi (by decide)]; omega⟩) (zdaP zDL4 1105 (by decide) rfl rfl) ?_
    refine lv_aload_n C.1 C.2.1 (zdaP zDL4 1106 (by decide) rfl rfl) rfl (lv_at hlv 1 rfl) ?_
    refine lv_iload C.1 C.2.1 (zdaP zDL4 1107 (by decide) rfl rfl) (lv_at hlv 0 rfl) ?_
    refine lv_iconst C.1 C.2.1 (zdaP zDL4 1109 (by decide) rfl rfl) rfl ?_
    refine lv_iadd C.1 C.2.1 (zdaP zDL4 1110 (by decide) rfl rfl) ?_
    refine va_sld C.1 C.2.1 hX hbl hbA hv.2.2.2.1 (vp_in_iff.mpr ⟨by rw [show Int32.ofInt 3 = Int32.ofInt ((3 : Nat) : Int) by decide, zsc1 hi (by decide)]; omega, by rw [show Int32.ofInt 3 = Int32.ofInt ((3 : Nat) : Int) by decide, zsc1 hi (by decide)]; omega⟩) (zdaP zDL4 1111 (by decide) rfl rfl) ?_
    refine zV_callV C (zr_found (x1 := xs (Int32.ofNat i + Int32.ofInt 1).toNatClampNeg) (x2 := xs (Int32.ofNat i + Int32.ofInt 2).toNatClampNeg) (x3 := xs (Int32.ofNat i + Int32.ofInt 3).toNatClampNeg) ((k2 94 3 (by decide)).trans hM2) hc8 ((k2 94 45 (by decide)).trans hE0b) hnf) rfl rfl (by decide) (by decide) (show vwCl[8]? = some (RX8, TX8, 51) from rfl) zw1692 zw1689 zw1690 zw1691 zw16 (n := 3) (by decide +kernel) (zdaP zDL4 1112 (by decide) rfl rfl) rfl zvk94 (show 94 < 126 by decide) hv hlv.1 (by show 1 ≤ 8; decide) (by show 0 + K ≤ 601024; omega) (by show 0 + S ≤ 7293034; omega) (fun v f9 g9 ws H locs hp hv => ?_)
    obtain ⟨⟨j0, rfl, j1⟩ | ⟨j0, rfl, j1⟩, j2, j3, j4⟩ := hp
    · refine lv_icmp_eq C.1 C.2.1 (zdaP zDL4 1115 (by decide) rfl rfl) (tgt := 1436) (by decide) (fun h1115 => ?_) (fun h1115 => ?_)
      · refine lv_iinc C.1 C.2.1 (zdaP zDL5 1436 (by decide) rfl rfl) hlv (k := 0) rfl rfl (by decide) (lv' := [(4, .int ((Int32.ofNat i) + Int32.ofInt 5)), (0, .ref o.1), (1, .ref (bb 0)), (2, .ref (bb 94)), (3, .ref (bb 125))]) rfl (fun ls hlv => ?_)
        rw [zinc5 hi] at hlv
        refine lv_goto C.1 C.2.1 (zdaP zDL5 1439 (by decide) rfl rfl) (tgt := 23) (by decide) ?_
        refine zcl9 (by omega) hn hlv hv ?_
        intro q hq
        unfold zyT3 at hq
        simp only [List.mem_cons, List.not_mem_nil, or_false] at hq
        rcases hq with rfl | rfl | rfl | rfl
        · exact zjp_of hv zvk1 (by decide) rfl zvk94 (by decide) rfl ((j2 1 1 (by decide)).trans ((k2 1 1 (by decide)).trans hy1)) ((j2 94 8 (by decide)).trans ((k2 94 8 (by decide)).trans hy2))
        · exact zjT_of hv (by rw [j3, j4, k3, k4]; exact hT)
        · exact zjp_of hv zvk3 (by decide) rfl zvk94 (by decide) rfl ((j2 3 6 (by decide)).trans ((k2 3 6 (by decide)).trans hM1)) ((j2 94 3 (by decide)).trans ((k2 94 3 (by decide)).trans hM2))
        · exact zjp_of hv zvk0 (by decide) rfl zvk94 (by decide) rfl ((j2 0 13 (by decide)).trans k1) (j1)
      · exact absurd rfl h1115
    · exact absurd k0 j0
  · refine lv_aload_n C.1 C.2.1 (zdaP zDL4 1093 (by decide) rfl rfl) rfl (lv_at hlv 3 rfl) ?_
    refine lv_aload_n C.1 C.2.1 (zdaP zDL4 1094 (by decide) rfl rfl) rfl (lv_at hlv 1 rfl) ?_
    refine lv_iload C.1 C.2.1 (zdaP zDL4 1095 (by decide) rfl rfl) (lv_at hlv 0 rfl) ?_
    refine lv_iconst C.1 C.2.1 (zdaP zDL4 1097 (by decide) rfl rfl) rfl ?_
    refine lv_iadd C.1 C.2.1 (zdaP zDL4 1098 (by decide) rfl rfl) ?_
    refine va_sld C.1 C.2.1 hX hbl hbA hv.2.2.2.1 (vp_in_iff.mpr ⟨by rw [show Int32.ofInt 1 = Int32.ofInt ((1 : Nat) : Int) by decide, zsc1 hi (by decide)]; omega, by rw [show Int32.ofInt 1 = Int32.ofInt ((1 : Nat) : Int) by decide, zsc1 hi (by decide)]; omega⟩) (zdaP zDL4 1099 (by decide) rfl rfl) ?_
    refine lv_aload_n C.1 C.2.1 (zdaP zDL4 1100 (by decide) rfl rfl) rfl (lv_at hlv 1 rfl) ?_
    refine lv_iload C.1 C.2.1 (zdaP zDL4 1101 (by decide) rfl rfl) (lv_at hlv 0 rfl) ?_
    refine lv_iconst C.1 C.2.1 (zdaP zDL4 1103 (by decide) rfl rfl) rfl ?_
    refine lv_iadd C.1 C.2.1 (zdaP zDL4 1104 (by decide) rfl rfl) ?_
    refine va_sld C.1 C.2.1 hX hbl hbA hv.2.2.2.1 (vp_in_iff.mpr ⟨by rw [show Int32.ofInt 2 = Int32.ofInt ((2 : Nat) : Int) by decide, zsc1 hi (by decide)]; omega, by rw [show Int32.ofInt 2 = Int32.ofInt ((2 : Nat) : Int) by decide, zsc1 hi (by decide)]; omega⟩) (zdaP zDL4 1105 (by decide) rfl rfl) ?_
    refine lv_aload_n C.1 C.2.1 (zdaP zDL4 1106 (by decide) rfl rfl) rfl (lv_at hlv 1 rfl) ?_
    refine lv_iload C.1 C.2.1 (zdaP zDL4 1107 (by decide) rfl rfl) (lv_at hlv 0 rfl) ?_
    refine lv_iconst C.1 C.2.1 (zdaP zDL4 1109 (by decide) rfl rfl) rfl ?_
    refine lv_iadd C.1 C.2.1 (zdaP zDL4 1110 (by decide) rfl rfl) ?_
    refine va_sld C.1 C.2.1 hX hbl hbA hv.2.2.2.1 (vp_in_iff.mpr ⟨by rw [show Int32.ofInt 3 = Int32.ofInt ((3 : Nat) : Int) by decide, zsc1 hi (by decide)]; omega, by rw [show Int32.ofInt 3 = Int32.ofInt ((3 : Nat) : Int) by decide, zsc1 hi (by decide)]; omega⟩) (zdaP zDL4 1111 (by decide) rfl rfl) ?_
    refine zV_callV C (zr_found (x1 := xs (Int32.ofNat i + Int32.ofInt 1).toNatClampNeg) (x2 := xs (Int32.ofNat i + Int32.ofInt 2).toNatClampNeg) (x3 := xs (Int32.ofNat i + Int32.ofInt 3).toNatClampNeg) ((k2 94 3 (by decide)).trans hM2) hc8 ((k2 94 45 (by decide)).trans hE0b) hnf) rfl rfl (by decide) (by decide) (show vwCl[8]? = some (RX8, TX8, 51) from rfl) zw1692 zw1689 zw1690 zw1691 zw16 (n := 3) (by decide +kernel) (zdaP zDL4 1112 (by decide) rfl rfl) rfl zvk94 (show 94 < 126 by decide) hv hlv.1 (by show 1 ≤ 8; decide) (by show 0 + K ≤ 601024; omega) (by show 0 + S ≤ 7293034; omega) (fun v f9 g9 ws H locs hp hv => ?_)
    obtain ⟨⟨j0, rfl, j1⟩ | ⟨j0, rfl, j1⟩, j2, j3, j4⟩ := hp
    · exact absurd j0 k0
    · refine lv_icmp_eq C.1 C.2.1 (zdaP zDL4 1115 (by decide) rfl rfl) (tgt := 1436) (by decide) (fun h1115 => ?_) (fun h1115 => ?_)
      · refine lv_iinc C.1 C.2.1 (zdaP zDL5 1436 (by decide) rfl rfl) hlv (k := 0) rfl rfl (by decide) (lv' := [(4, .int ((Int32.ofNat i) + Int32.ofInt 5)), (0, .ref o.1), (1, .ref (bb 0)), (2, .ref (bb 94)), (3, .ref (bb 125))]) rfl (fun ls hlv => ?_)
        rw [zinc5 hi] at hlv
        refine lv_goto C.1 C.2.1 (zdaP zDL5 1439 (by decide) rfl rfl) (tgt := 23) (by decide) ?_
        refine zcl9 (by omega) hn hlv hv ?_
        intro q hq
        unfold zyT3 at hq
        simp only [List.mem_cons, List.not_mem_nil, or_false] at hq
        rcases hq with rfl | rfl | rfl | rfl
        · exact zjp_of hv zvk1 (by decide) rfl zvk94 (by decide) rfl ((j2 1 1 (by decide)).trans ((k2 1 1 (by decide)).trans hy1)) ((j2 94 8 (by decide)).trans ((k2 94 8 (by decide)).trans hy2))
        · exact zjT_of hv (by rw [j3, j4, k3, k4]; exact hT)
        · exact zjp_of hv zvk3 (by decide) rfl zvk94 (by decide) rfl ((j2 3 6 (by decide)).trans ((k2 3 6 (by decide)).trans hM1)) ((j2 94 3 (by decide)).trans ((k2 94 3 (by decide)).trans hM2))
        · exact zjp_of hv zvk0 (by decide) rfl zvk94 (by decide) rfl ((j2 0 13 (by decide)).trans k1) (j1)
      · exact absurd rfl h1115
end ZRND2
