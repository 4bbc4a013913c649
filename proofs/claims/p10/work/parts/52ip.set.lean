section ZSET
variable {l0 : Launch} {D : va_G} {tys : List (ClassId × FieldType)} {o : zO} {z : Nat} {b : Nat → Nat} {f : Nat → Nat → Value} {g : Nat → Nat → Int32}
set_option maxHeartbeats 8000000 in
theorem zc_set {x1 x2 B : Int32} {h : Nat} (hH : f 3 7 = .int (Int32.ofNat h)) (hB : f 3 8 = .int B) : zCt l0 D tys o z zyI b mX7_set 2 300 [.ref (b 0), .int x1, .int x2] f g (fun v f' g' => (∃ y, v = some (.int y)) ∧ (((x1 = 0 ∧ 1 ≤ x2.toInt ∧ x2.toInt ≤ 8) ∧ f' 3 7 = .int x2) ∨ (¬ (x1 = 0 ∧ 1 ≤ x2.toInt ∧ x2.toInt ≤ 8) ∧ f' 3 7 = .int (Int32.ofNat h))) ∧ (∀ k j, ¬ (k = 3 ∧ (j = 7 ∨ j = 8)) → f' k j = f k j) ∧ g = g') := by
  refine zCt_of (mr := mX7_set) (by decide) (by decide) (by decide) (show 3 ≤ 4 by decide) rfl rfl ?_
  intro p e s m below meth c0 Q ls ws C hret hv hlv
  replace C : zCx p { frames := 2, cells := 0, slots := 0, locals := 300 } s m ([.ref (b 0), .int x1, .int x2] : List Value).toArray meth c0 D vwCl tys z (zXX o z) zTs RX7 cX7_set 4 "set" := C
  have hlv : lv_has ls 4 [(0, .ref (b 0)), (1, .int x1), (2, .int x2)] := hlv
  refine lv_iconst C.1 C.2.1 (zda zDX7_set 0 rfl rfl) rfl ?_
  refine lv_istore_n C.1 C.2.1 (zda zDX7_set 1 rfl rfl) rfl hlv (lv' := [(3, .int (Int32.ofInt (-1))), (0, .ref (b 0)), (1, .int (x1)), (2, .int (x2))]) (by decide) rfl (fun ls hlv => ?_)
  refine lv_iload_n C.1 C.2.1 (zda zDX7_set 2 rfl rfl) rfl (lv_at hlv 2 rfl) ?_
  refine lv_if_ne C.1 C.2.1 (zda zDX7_set 3 rfl rfl) (tgt := 36) (by decide) (fun h3 => ?_) (fun h3 => ?_)
  · refine lv_iload_n C.1 C.2.1 (zda zDX7_set 36 rfl rfl) rfl (lv_at hlv 2 rfl) ?_
    refine lv_iconst C.1 C.2.1 (zda zDX7_set 37 rfl rfl) rfl ?_
    refine lv_icmp_ne C.1 C.2.1 (zda zDX7_set 38 rfl rfl) (tgt := 67) (by decide) (fun h38 => ?_) (fun h38 => ?_)
    · refine lv_iload_n C.1 C.2.1 (zda zDX7_set 67 rfl rfl) rfl (lv_at hlv 0 rfl) ?_
      exact hret 68 ls (some _) _ _ _ _ _ (Or.inl ⟨_, .int, rfl, rfl, rfl, (zda zDX7_set 68 rfl rfl)⟩) hv (⟨⟨_, rfl⟩, Or.inr ⟨fun q => h3 q.1, hH⟩, fun k j hk => rfl, rfl⟩)
    · refine lv_iload_n C.1 C.2.1 (zda zDX7_set 41 rfl rfl) rfl (lv_at hlv 3 rfl) ?_
      refine lv_if_lt C.1 C.2.1 (zda zDX7_set 42 rfl rfl) (tgt := 67) (by decide) (fun h42 => ?_) (fun h42 => ?_)
      · refine lv_iload_n C.1 C.2.1 (zda zDX7_set 67 rfl rfl) rfl (lv_at hlv 0 rfl) ?_
        exact hret 68 ls (some _) _ _ _ _ _ (Or.inl ⟨_, .int, rfl, rfl, rfl, (zda zDX7_set 68 rfl rfl)⟩) hv (⟨⟨_, rfl⟩, Or.inr ⟨fun q => h3 q.1, hH⟩, fun k j hk => rfl, rfl⟩)
      · rw [Int32.lt_iff_toInt_lt, Int32.toInt_zero] at h42
        refine lv_iload_n C.1 C.2.1 (zda zDX7_set 45 rfl rfl) rfl (lv_at hlv 3 rfl) ?_
        refine lv_bipush C.1 C.2.1 (zda zDX7_set 46 rfl rfl) rfl ?_
        refine lv_icmp_gt C.1 C.2.1 (zda zDX7_set 48 rfl rfl) (tgt := 67) (by decide) (fun h48 => ?_) (fun h48 => ?_)
        · refine lv_iload_n C.1 C.2.1 (zda zDX7_set 67 rfl rfl) rfl (lv_at hlv 0 rfl) ?_
          exact hret 68 ls (some _) _ _ _ _ _ (Or.inl ⟨_, .int, rfl, rfl, rfl, (zda zDX7_set 68 rfl rfl)⟩) hv (⟨⟨_, rfl⟩, Or.inr ⟨fun q => h3 q.1, hH⟩, fun k j hk => rfl, rfl⟩)
        · rw [Int32.lt_iff_toInt_lt, show ((Int8.ofInt 9).toInt32).toInt = 9 by decide] at h48
          refine lv_aload_n C.1 C.2.1 (zda zDX7_set 51 rfl rfl) rfl (lv_at hlv 1 rfl) ?_
          refine zV_get C (zda zDX7_set 52 rfl rfl) (show vwCl[7]? = some (RX7, TX7, 16) from rfl) zinX7 (by decide) zw424 hv zvk0 (show 0 < 126 by decide) rfl (j := 1) (zV_ref hv zvk0 (show 0 < 126 by decide) rfl) ?_
          refine zV_getN C (zda zDX7_set 55 rfl rfl) (show vwCl[0]? = some (RX0, TX0, 12) from rfl) zinX0 (by decide) (fun U H h => zn12 h) hv zvk3 (show 3 < 126 by decide) rfl (j := 8) hB ?_
          refine lv_istore_n C.1 C.2.1 (zda zDX7_set 58 rfl rfl) rfl hlv (lv' := [(3, .int (B)), (0, .ref (b 0)), (1, .int (x1)), (2, .int (x2))]) (by decide) rfl (fun ls hlv => ?_)
          refine lv_aload_n C.1 C.2.1 (zda zDX7_set 59 rfl rfl) rfl (lv_at hlv 1 rfl) ?_
          refine zV_get C (zda zDX7_set 60 rfl rfl) (show vwCl[7]? = some (RX7, TX7, 16) from rfl) zinX7 (by decide) zw424 hv zvk0 (show 0 < 126 by decide) rfl (j := 1) (zV_ref hv zvk0 (show 0 < 126 by decide) rfl) ?_
          refine lv_iload_n C.1 C.2.1 (zda zDX7_set 63 rfl rfl) rfl (lv_at hlv 3 rfl) ?_
          refine zV_putiN C (zda zDX7_set 64 rfl rfl) (show vwCl[0]? = some (RX0, TX0, 12) from rfl) zinX0 tyX0 tyX0_ok nmX0 (j := 8) (by decide) (fun U H h => zn12 h) rfl (by decide +kernel) hv zvk3 (show 3 < 126 by decide) rfl ⟨by show (0 : Int) ≤ _; omega, by show _ ≤ (9 : Int); omega⟩ (fun ws H locs hv => ?_)
          refine lv_iload_n C.1 C.2.1 (zda zDX7_set 67 rfl rfl) rfl (lv_at hlv 0 rfl) ?_
          exact hret 68 ls (some _) _ _ _ _ _ (Or.inl ⟨_, .int, rfl, rfl, rfl, (zda zDX7_set 68 rfl rfl)⟩) hv (⟨⟨_, rfl⟩, Or.inr ⟨fun q => h3 q.1, hH⟩, fun k j hk => zuv_n (by omega), rfl⟩)
  · refine lv_iload_n C.1 C.2.1 (zda zDX7_set 6 rfl rfl) rfl (lv_at hlv 3 rfl) ?_
    refine lv_iconst C.1 C.2.1 (zda zDX7_set 7 rfl rfl) rfl ?_
    refine lv_icmp_lt C.1 C.2.1 (zda zDX7_set 8 rfl rfl) (tgt := 36) (by decide) (fun h8 => ?_) (fun h8 => ?_)
    · rw [Int32.lt_iff_toInt_lt, show (Int32.ofInt 1).toInt = 1 by decide] at h8
      refine lv_iload_n C.1 C.2.1 (zda zDX7_set 36 rfl rfl) rfl (lv_at hlv 2 rfl) ?_
      refine lv_iconst C.1 C.2.1 (zda zDX7_set 37 rfl rfl) rfl ?_
      refine lv_icmp_ne C.1 C.2.1 (zda zDX7_set 38 rfl rfl) (tgt := 67) (by decide) (fun h38 => ?_) (fun h38 => ?_)
      · refine lv_iload_n C.1 C.2.1 (zda zDX7_set 67 rfl rfl) rfl (lv_at hlv 0 rfl) ?_
        exact hret 68 ls (some _) _ _ _ _ _ (Or.inl ⟨_, .int, rfl, rfl, rfl, (zda zDX7_set 68 rfl rfl)⟩) hv (⟨⟨_, rfl⟩, Or.inr ⟨fun q => by omega, hH⟩, fun k j hk => rfl, rfl⟩)
      · refine lv_iload_n C.1 C.2.1 (zda zDX7_set 41 rfl rfl) rfl (lv_at hlv 3 rfl) ?_
        refine lv_if_lt C.1 C.2.1 (zda zDX7_set 42 rfl rfl) (tgt := 67) (by decide) (fun h42 => ?_) (fun h42 => ?_)
        · refine lv_iload_n C.1 C.2.1 (zda zDX7_set 67 rfl rfl) rfl (lv_at hlv 0 rfl) ?_
          exact hret 68 ls (some _) _ _ _ _ _ (Or.inl ⟨_, .int, rfl, rfl, rfl, (zda zDX7_set 68 rfl rfl)⟩) hv (⟨⟨_, rfl⟩, Or.inr ⟨fun q => by omega, hH⟩, fun k j hk => rfl, rfl⟩)
        · rw [Int32.lt_iff_toInt_lt, Int32.toInt_zero] at h42
          refine lv_iload_n C.1 C.2.1 (zda zDX7_set 45 rfl rfl) rfl (lv_at hlv 3 rfl) ?_
          refine lv_bipush C.1 C.2.1 (zda zDX7_set 46 rfl rfl) rfl ?_
          refine lv_icmp_gt C.1 C.2.1 (zda zDX7_set 48 rfl rfl) (tgt := 67) (by decide) (fun h48 => ?_) (fun h48 => ?_)
          · refine lv_iload_n C.1 C.2.1 (zda zDX7_set 67 rfl rfl) rfl (lv_at hlv 0 rfl) ?_
            exact hret 68 ls (some _) _ _ _ _ _ (Or.inl ⟨_, .int, rfl, rfl, rfl, (zda zDX7_set 68 rfl rfl)⟩) hv (⟨⟨_, rfl⟩, Or.inr ⟨fun q => by omega, hH⟩, fun k j hk => rfl, rfl⟩)
          · rw [Int32.lt_iff_toInt_lt, show ((Int8.ofInt 9).toInt32).toInt = 9 by decide] at h48
            refine lv_aload_n C.1 C.2.1 (zda zDX7_set 51 rfl rfl) rfl (lv_at hlv 1 rfl) ?_
            refine zV_get C (zda zDX7_set 52 rfl rfl) (show vwCl[7]? = some (RX7, TX7, 16) from rfl) zinX7 (by decide) zw424 hv zvk0 (show 0 < 126 by decide) rfl (j := 1) (zV_ref hv zvk0 (show 0 < 126 by decide) rfl) ?_
            refine zV_getN C (zda zDX7_set 55 rfl rfl) (show vwCl[0]? = some (RX0, TX0, 12) from rfl) zinX0 (by decide) (fun U H h => zn12 h) hv zvk3 (show 3 < 126 by decide) rfl (j := 8) hB ?_
            refine lv_istore_n C.1 C.2.1 (zda zDX7_set 58 rfl rfl) rfl hlv (lv' := [(3, .int (B)), (0, .ref (b 0)), (1, .int (x1)), (2, .int (x2))]) (by decide) rfl (fun ls hlv => ?_)
            refine lv_aload_n C.1 C.2.1 (zda zDX7_set 59 rfl rfl) rfl (lv_at hlv 1 rfl) ?_
            refine zV_get C (zda zDX7_set 60 rfl rfl) (show vwCl[7]? = some (RX7, TX7, 16) from rfl) zinX7 (by decide) zw424 hv zvk0 (show 0 < 126 by decide) rfl (j := 1) (zV_ref hv zvk0 (show 0 < 126 by decide) rfl) ?_
            refine lv_iload_n C.1 C.2.1 (zda zDX7_set 63 rfl rfl) rfl (lv_at hlv 3 rfl) ?_
            refine zV_putiN C (zda zDX7_set 64 rfl rfl) (show vwCl[0]? = some (RX0, TX0, 12) from rfl) zinX0 tyX0 tyX0_ok nmX0 (j := 8) (by decide) (fun U H h => zn12 h) rfl (by decide +kernel) hv zvk3 (show 3 < 126 by decide) rfl ⟨by show (0 : Int) ≤ _; omega, by show _ ≤ (9 : Int); omega⟩ (fun ws H locs hv => ?_)
            refine lv_iload_n C.1 C.2.1 (zda zDX7_set 67 rfl rfl) rfl (lv_at hlv 0 rfl) ?_
            exact hret 68 ls (some _) _ _ _ _ _ (Or.inl ⟨_, .int, rfl, rfl, rfl, (zda zDX7_set 68 rfl rfl)⟩) hv (⟨⟨_, rfl⟩, Or.inr ⟨fun q => by omega, hH⟩, fun k j hk => zuv_n (by omega), rfl⟩)
    · rw [Int32.lt_iff_toInt_lt, show (Int32.ofInt 1).toInt = 1 by decide] at h8
      refine lv_iload_n C.1 C.2.1 (zda zDX7_set 11 rfl rfl) rfl (lv_at hlv 3 rfl) ?_
      refine lv_bipush C.1 C.2.1 (zda zDX7_set 12 rfl rfl) rfl ?_
      refine lv_icmp_gt C.1 C.2.1 (zda zDX7_set 14 rfl rfl) (tgt := 36) (by decide) (fun h14 => ?_) (fun h14 => ?_)
      · rw [Int32.lt_iff_toInt_lt, show ((Int8.ofInt 8).toInt32).toInt = 8 by decide] at h14
        refine lv_iload_n C.1 C.2.1 (zda zDX7_set 36 rfl rfl) rfl (lv_at hlv 2 rfl) ?_
        refine lv_iconst C.1 C.2.1 (zda zDX7_set 37 rfl rfl) rfl ?_
        refine lv_icmp_ne C.1 C.2.1 (zda zDX7_set 38 rfl rfl) (tgt := 67) (by decide) (fun h38 => ?_) (fun h38 => ?_)
        · refine lv_iload_n C.1 C.2.1 (zda zDX7_set 67 rfl rfl) rfl (lv_at hlv 0 rfl) ?_
          exact hret 68 ls (some _) _ _ _ _ _ (Or.inl ⟨_, .int, rfl, rfl, rfl, (zda zDX7_set 68 rfl rfl)⟩) hv (⟨⟨_, rfl⟩, Or.inr ⟨fun q => by omega, hH⟩, fun k j hk => rfl, rfl⟩)
        · refine lv_iload_n C.1 C.2.1 (zda zDX7_set 41 rfl rfl) rfl (lv_at hlv 3 rfl) ?_
          refine lv_if_lt C.1 C.2.1 (zda zDX7_set 42 rfl rfl) (tgt := 67) (by decide) (fun h42 => ?_) (fun h42 => ?_)
          · refine lv_iload_n C.1 C.2.1 (zda zDX7_set 67 rfl rfl) rfl (lv_at hlv 0 rfl) ?_
            exact hret 68 ls (some _) _ _ _ _ _ (Or.inl ⟨_, .int, rfl, rfl, rfl, (zda zDX7_set 68 rfl rfl)⟩) hv (⟨⟨_, rfl⟩, Or.inr ⟨fun q => by omega, hH⟩, fun k j hk => rfl, rfl⟩)
          · rw [Int32.lt_iff_toInt_lt, Int32.toInt_zero] at h42
            refine lv_iload_n C.1 C.2.1 (zda zDX7_set 45 rfl rfl) rfl (lv_at hlv 3 rfl) ?_
            refine lv_bipush C.1 C.2.1 (zda zDX7_set 46 rfl rfl) rfl ?_
            refine lv_icmp_gt C.1 C.2.1 (zda zDX7_set 48 rfl rfl) (tgt := 67) (by decide) (fun h48 => ?_) (fun h48 => ?_)
            · refine lv_iload_n C.1 C.2.1 (zda zDX7_set 67 rfl rfl) rfl (lv_at hlv 0 rfl) ?_
              exact hret 68 ls (some _) _ _ _ _ _ (Or.inl ⟨_, .int, rfl, rfl, rfl, (zda zDX7_set 68 rfl rfl)⟩) hv (⟨⟨_, rfl⟩, Or.inr ⟨fun q => by omega, hH⟩, fun k j hk => rfl, rfl⟩)
            · rw [Int32.lt_iff_toInt_lt, show ((Int8.ofInt 9).toInt32).toInt = 9 by decide] at h48
              refine lv_aload_n C.1 C.2.1 (zda zDX7_set 51 rfl rfl) rfl (lv_at hlv 1 rfl) ?_
              refine zV_get C (zda zDX7_set 52 rfl rfl) (show vwCl[7]? = some (RX7, TX7, 16) from rfl) zinX7 (by decide) zw424 hv zvk0 (show 0 < 126 by decide) rfl (j := 1) (zV_ref hv zvk0 (show 0 < 126 by decide) rfl) ?_
              refine zV_getN C (zda zDX7_set 55 rfl rfl) (show vwCl[0]? = some (RX0, TX0, 12) from rfl) zinX0 (by decide) (fun U H h => zn12 h) hv zvk3 (show 3 < 126 by decide) rfl (j := 8) hB ?_
              refine lv_istore_n C.1 C.2.1 (zda zDX7_set 58 rfl rfl) rfl hlv (lv' := [(3, .int (B)), (0, .ref (b 0)), (1, .int (x1)), (2, .int (x2))]) (by decide) rfl (fun ls hlv => ?_)
              refine lv_aload_n C.1 C.2.1 (zda zDX7_set 59 rfl rfl) rfl (lv_at hlv 1 rfl) ?_
              refine zV_get C (zda zDX7_set 60 rfl rfl) (show vwCl[7]? = some (RX7, TX7, 16) from rfl) zinX7 (by decide) zw424 hv zvk0 (show 0 < 126 by decide) rfl (j := 1) (zV_ref hv zvk0 (show 0 < 126 by decide) rfl) ?_
              refine lv_iload_n C.1 C.2.1 (zda zDX7_set 63 rfl rfl) rfl (lv_at hlv 3 rfl) ?_
              refine zV_putiN C (zda zDX7_set 64 rfl rfl) (show vwCl[0]? = some (RX0, TX0, 12) from rfl) zinX0 tyX0 tyX0_ok nmX0 (j := 8) (by decide) (fun U H h => zn12 h) rfl (by decide +kernel) hv zvk3 (show 3 < 126 by decide) rfl ⟨by show (0 : Int) ≤ _; omega, by show _ ≤ (9 : Int); omega⟩ (fun ws H locs hv => ?_)
              refine lv_iload_n C.1 C.2.1 (zda zDX7_set 67 rfl rfl) rfl (lv_at hlv 0 rfl) ?_
              exact hret 68 ls (some _) _ _ _ _ _ (Or.inl ⟨_, .int, rfl, rfl, rfl, (zda zDX7_set 68 rfl rfl)⟩) hv (⟨⟨_, rfl⟩, Or.inr ⟨fun q => by omega, hH⟩, fun k j hk => zuv_n (by omega), rfl⟩)
      · rw [Int32.lt_iff_toInt_lt, show ((Int8.ofInt 8).toInt32).toInt = 8 by decide] at h14
        refine lv_aload_n C.1 C.2.1 (zda zDX7_set 17 rfl rfl) rfl (lv_at hlv 1 rfl) ?_
        refine zV_get C (zda zDX7_set 18 rfl rfl) (show vwCl[7]? = some (RX7, TX7, 16) from rfl) zinX7 (by decide) zw424 hv zvk0 (show 0 < 126 by decide) rfl (j := 1) (zV_ref hv zvk0 (show 0 < 126 by decide) rfl) ?_
        refine zV_getN C (zda zDX7_set 21 rfl rfl) (show vwCl[0]? = some (RX0, TX0, 12) from rfl) zinX0 (by decide) (fun U H h => zn11 h) hv zvk3 (show 3 < 126 by decide) rfl (j := 7) hH ?_
        refine lv_istore_n C.1 C.2.1 (zda zDX7_set 24 rfl rfl) rfl hlv (lv' := [(3, .int (Int32.ofNat h)), (0, .ref (b 0)), (1, .int (x1)), (2, .int (x2))]) (by decide) rfl (fun ls hlv => ?_)
        refine lv_aload_n C.1 C.2.1 (zda zDX7_set 25 rfl rfl) rfl (lv_at hlv 1 rfl) ?_
        refine zV_get C (zda zDX7_set 26 rfl rfl) (show vwCl[7]? = some (RX7, TX7, 16) from rfl) zinX7 (by decide) zw424 hv zvk0 (show 0 < 126 by decide) rfl (j := 1) (zV_ref hv zvk0 (show 0 < 126 by decide) rfl) ?_
        refine lv_iload_n C.1 C.2.1 (zda zDX7_set 29 rfl rfl) rfl (lv_at hlv 3 rfl) ?_
        refine zV_putiN C (zda zDX7_set 30 rfl rfl) (show vwCl[0]? = some (RX0, TX0, 12) from rfl) zinX0 tyX0 tyX0_ok nmX0 (j := 7) (by decide) (fun U H h => zn11 h) rfl (by decide +kernel) hv zvk3 (show 3 < 126 by decide) rfl ⟨by show (1 : Int) ≤ _; omega, by show _ ≤ (8 : Int); omega⟩ (fun ws H locs hv => ?_)
        refine lv_goto C.1 C.2.1 (zda zDX7_set 33 rfl rfl) (tgt := 67) (by decide) ?_
        refine lv_iload_n C.1 C.2.1 (zda zDX7_set 67 rfl rfl) rfl (lv_at hlv 0 rfl) ?_
        exact hret 68 ls (some _) _ _ _ _ _ (Or.inl ⟨_, .int, rfl, rfl, rfl, (zda zDX7_set 68 rfl rfl)⟩) hv (⟨⟨_, rfl⟩, Or.inl ⟨⟨h3, by omega, by omega⟩, rfl⟩, fun k j hk => zuv_n (by omega), rfl⟩)
set_option maxHeartbeats 8000000 in
theorem zr_set {x1 x2 B : Int32} {h : Nat} (hH : f 94 1 = .int (Int32.ofNat h)) (hB : f 94 2 = .int B) : zCt l0 D tys o z zyI b mX8_set 4 400 [.ref (b 94), .int x1, .int x2] f g (fun v f' g' => (∃ y, v = some (.int y)) ∧ (((x1 = 0 ∧ 1 ≤ x2.toInt ∧ x2.toInt ≤ 8) ∧ f' 94 1 = .int x2) ∨ (¬ (x1 = 0 ∧ 1 ≤ x2.toInt ∧ x2.toInt ≤ 8) ∧ f' 94 1 = .int (Int32.ofNat h))) ∧ (∀ k j, ¬ (k = 94 ∧ (j = 1 ∨ j = 2 ∨ j = 11)) → f' k j = f k j) ∧ g = g') := by
  refine zCt_of (mr := mX8_set) (by decide) (by decide) (by decide) (show 3 ≤ 4 by decide) rfl rfl ?_
  intro p e s m below meth c0 Q ls ws C hret hv hlv
  replace C : zCx p { frames := 4, cells := 0, slots := 0, locals := 400 } s m ([.ref (b 94), .int x1, .int x2] : List Value).toArray meth c0 D vwCl tys z (zXX o z) zTs RX8 cX8_set 4 "set" := C
  have hlv : lv_has ls 4 [(0, .ref (b 94)), (1, .int x1), (2, .int x2)] := hlv
  refine lv_aload_n C.1 C.2.1 (zda zDX8_set 0 rfl rfl) rfl (lv_at hlv 0 rfl) ?_
  refine lv_iconst C.1 C.2.1 (zda zDX8_set 1 rfl rfl) rfl ?_
  refine zV_puti C (zda zDX8_set 2 rfl rfl) (show vwCl[8]? = some (RX8, TX8, 51) from rfl) zinX8 tyX8 tyX8_ok nmX8 (j := 11) (by decide) zw1183 rfl (by decide +kernel) hv zvk94 (show 94 < 126 by decide) rfl ⟨by show (0 : Int) ≤ _; decide, by show _ ≤ (1 : Int); decide⟩ (fun ws H locs hv => ?_)
  refine lv_iload_n C.1 C.2.1 (zda zDX8_set 5 rfl rfl) rfl (lv_at hlv 1 rfl) ?_
  refine lv_if_ne C.1 C.2.1 (zda zDX8_set 6 rfl rfl) (tgt := 22) (by decide) (fun h6 => ?_) (fun h6 => ?_)
  · refine lv_iload_n C.1 C.2.1 (zda zDX8_set 22 rfl rfl) rfl (lv_at hlv 1 rfl) ?_
    refine lv_iconst C.1 C.2.1 (zda zDX8_set 23 rfl rfl) rfl ?_
    refine lv_icmp_ne C.1 C.2.1 (zda zDX8_set 24 rfl rfl) (tgt := 37) (by decide) (fun h24 => ?_) (fun h24 => ?_)
    · refine lv_iconst C.1 C.2.1 (zda zDX8_set 37 rfl rfl) rfl ?_
      exact hret 38 ls (some _) _ _ _ _ _ (Or.inl ⟨_, .int, rfl, rfl, rfl, (zda zDX8_set 38 rfl rfl)⟩) hv (⟨⟨_, rfl⟩, Or.inr ⟨fun q => h6 q.1, hH⟩, fun k j hk => zuv_n (by omega), rfl⟩)
    · refine lv_iload_n C.1 C.2.1 (zda zDX8_set 27 rfl rfl) rfl (lv_at hlv 2 rfl) ?_
      refine lv_iconst C.1 C.2.1 (zda zDX8_set 28 rfl rfl) rfl ?_
      refine lv_bipush C.1 C.2.1 (zda zDX8_set 29 rfl rfl) rfl ?_
      by_cases q2 : 0 ≤ x2.toInt ∧ x2.toInt ≤ 9
      · refine zV_callS C (zr_inT (by rw [Int32.lt_iff_toInt_lt, show (Int32.ofInt 0).toInt = 0 by decide]; omega) (by rw [Int32.lt_iff_toInt_lt, show ((Int8.ofInt 9).toInt32).toInt = 9 by decide]; omega)) rfl rfl (by decide) (by decide) zw1336 zw1334 zw1335 zw16 (n := 3) (by decide +kernel) (zda zDX8_set 31 rfl rfl) rfl hv hlv.1 (by show 0 ≤ 8; decide) (Nat.zero_le _) (Nat.zero_le _) (fun v f9 g9 ws H locs hp hv => ?_)
        obtain ⟨rfl, rfl, rfl⟩ := hp
        refine lv_if_ne C.1 C.2.1 (zda zDX8_set 34 rfl rfl) (tgt := 39) (by decide) (fun h34 => ?_) (fun h34 => ?_)
        · refine lv_iload_n C.1 C.2.1 (zda zDX8_set 39 rfl rfl) rfl (lv_at hlv 1 rfl) ?_
          refine lv_if_ne C.1 C.2.1 (zda zDX8_set 40 rfl rfl) (tgt := 50) (by decide) (fun h40 => ?_) (fun h40 => ?_)
          · refine lv_aload_n C.1 C.2.1 (zda zDX8_set 50 rfl rfl) rfl (lv_at hlv 0 rfl) ?_
            refine zV_get C (zda zDX8_set 51 rfl rfl) (show vwCl[8]? = some (RX8, TX8, 51) from rfl) zinX8 (by decide) zw1174 hv zvk94 (show 94 < 126 by decide) rfl (j := 2) hB ?_
            refine lv_istore_n C.1 C.2.1 (zda zDX8_set 54 rfl rfl) rfl hlv (lv' := [(3, .int (B)), (0, .ref (b 94)), (1, .int (x1)), (2, .int (x2))]) (by decide) rfl (fun ls hlv => ?_)
            refine lv_iload_n C.1 C.2.1 (zda zDX8_set 55 rfl rfl) rfl (lv_at hlv 2 rfl) ?_
            refine lv_if_ne C.1 C.2.1 (zda zDX8_set 56 rfl rfl) (tgt := 67) (by decide) (fun h56 => ?_) (fun h56 => ?_)
            · refine lv_aload_n C.1 C.2.1 (zda zDX8_set 67 rfl rfl) rfl (lv_at hlv 1 rfl) ?_
              refine lv_iload_n C.1 C.2.1 (zda zDX8_set 68 rfl rfl) rfl (lv_at hlv 3 rfl) ?_
              refine zV_puti C (zda zDX8_set 69 rfl rfl) (show vwCl[8]? = some (RX8, TX8, 51) from rfl) zinX8 tyX8 tyX8_ok nmX8 (j := 2) (by decide) zw1174 rfl (by decide +kernel) hv zvk94 (show 94 < 126 by decide) rfl ⟨by show (0 : Int) ≤ _; omega, by show _ ≤ (9 : Int); omega⟩ (fun ws H locs hv => ?_)
              refine lv_iload_n C.1 C.2.1 (zda zDX8_set 72 rfl rfl) rfl (lv_at hlv 0 rfl) ?_
              exact hret 73 ls (some _) _ _ _ _ _ (Or.inl ⟨_, .int, rfl, rfl, rfl, (zda zDX8_set 73 rfl rfl)⟩) hv (⟨⟨_, rfl⟩, Or.inr ⟨fun q => h6 q.1, hH⟩, fun k j hk => (zuv_n (by omega)).trans (zuv_n (by omega)), rfl⟩)
            · exact absurd h56 h6
          · exact absurd h40 h6
        · exact absurd h34 (by decide)
      · refine zV_callS C (zr_inF (by rw [Int32.lt_iff_toInt_lt, Int32.lt_iff_toInt_lt, show (Int32.ofInt 0).toInt = 0 by decide, show ((Int8.ofInt 9).toInt32).toInt = 9 by decide]; omega)) rfl rfl (by decide) (by decide) zw1336 zw1334 zw1335 zw16 (n := 3) (by decide +kernel) (zda zDX8_set 31 rfl rfl) rfl hv hlv.1 (by show 0 ≤ 8; decide) (Nat.zero_le _) (Nat.zero_le _) (fun v f9 g9 ws H locs hp hv => ?_)
        obtain ⟨rfl, rfl, rfl⟩ := hp
        refine lv_if_ne C.1 C.2.1 (zda zDX8_set 34 rfl rfl) (tgt := 39) (by decide) (fun h34 => ?_) (fun h34 => ?_)
        · exact absurd rfl h34
        · refine lv_iconst C.1 C.2.1 (zda zDX8_set 37 rfl rfl) rfl ?_
          exact hret 38 ls (some _) _ _ _ _ _ (Or.inl ⟨_, .int, rfl, rfl, rfl, (zda zDX8_set 38 rfl rfl)⟩) hv (⟨⟨_, rfl⟩, Or.inr ⟨fun q => h6 q.1, hH⟩, fun k j hk => zuv_n (by omega), rfl⟩)
  · refine lv_iload_n C.1 C.2.1 (zda zDX8_set 9 rfl rfl) rfl (lv_at hlv 2 rfl) ?_
    refine lv_iconst C.1 C.2.1 (zda zDX8_set 10 rfl rfl) rfl ?_
    refine lv_bipush C.1 C.2.1 (zda zDX8_set 11 rfl rfl) rfl ?_
    by_cases q2 : 1 ≤ x2.toInt ∧ x2.toInt ≤ 8
    · refine zV_callS C (zr_inT (by rw [Int32.lt_iff_toInt_lt, show (Int32.ofInt 1).toInt = 1 by decide]; omega) (by rw [Int32.lt_iff_toInt_lt, show ((Int8.ofInt 8).toInt32).toInt = 8 by decide]; omega)) rfl rfl (by decide) (by decide) zw1336 zw1334 zw1335 zw16 (n := 3) (by decide +kernel) (zda zDX8_set 13 rfl rfl) rfl hv hlv.1 (by show 0 ≤ 8; decide) (Nat.zero_le _) (Nat.zero_le _) (fun v f9 g9 ws H locs hp hv => ?_)
      obtain ⟨rfl, rfl, rfl⟩ := hp
      refine lv_if_ne C.1 C.2.1 (zda zDX8_set 16 rfl rfl) (tgt := 39) (by decide) (fun h16 => ?_) (fun h16 => ?_)
      · refine lv_iload_n C.1 C.2.1 (zda zDX8_set 39 rfl rfl) rfl (lv_at hlv 1 rfl) ?_
        refine lv_if_ne C.1 C.2.1 (zda zDX8_set 40 rfl rfl) (tgt := 50) (by decide) (fun h40 => ?_) (fun h40 => ?_)
        · exact absurd h6 h40
        · refine lv_aload_n C.1 C.2.1 (zda zDX8_set 43 rfl rfl) rfl (lv_at hlv 0 rfl) ?_
          refine zV_get C (zda zDX8_set 44 rfl rfl) (show vwCl[8]? = some (RX8, TX8, 51) from rfl) zinX8 (by decide) zw1173 hv zvk94 (show 94 < 126 by decide) rfl (j := 1) hH ?_
          refine lv_goto C.1 C.2.1 (zda zDX8_set 47 rfl rfl) (tgt := 54) (by decide) ?_
          refine lv_istore_n C.1 C.2.1 (zda zDX8_set 54 rfl rfl) rfl hlv (lv' := [(3, .int (Int32.ofNat h)), (0, .ref (b 94)), (1, .int (x1)), (2, .int (x2))]) (by decide) rfl (fun ls hlv => ?_)
          refine lv_iload_n C.1 C.2.1 (zda zDX8_set 55 rfl rfl) rfl (lv_at hlv 2 rfl) ?_
          refine lv_if_ne C.1 C.2.1 (zda zDX8_set 56 rfl rfl) (tgt := 67) (by decide) (fun h56 => ?_) (fun h56 => ?_)
          · exact absurd h6 h56
          · refine lv_aload_n C.1 C.2.1 (zda zDX8_set 59 rfl rfl) rfl (lv_at hlv 1 rfl) ?_
            refine lv_iload_n C.1 C.2.1 (zda zDX8_set 60 rfl rfl) rfl (lv_at hlv 3 rfl) ?_
            refine zV_puti C (zda zDX8_set 61 rfl rfl) (show vwCl[8]? = some (RX8, TX8, 51) from rfl) zinX8 tyX8 tyX8_ok nmX8 (j := 1) (by decide) zw1173 rfl (by decide +kernel) hv zvk94 (show 94 < 126 by decide) rfl ⟨by show (1 : Int) ≤ _; omega, by show _ ≤ (8 : Int); omega⟩ (fun ws H locs hv => ?_)
            refine lv_goto C.1 C.2.1 (zda zDX8_set 64 rfl rfl) (tgt := 72) (by decide) ?_
            refine lv_iload_n C.1 C.2.1 (zda zDX8_set 72 rfl rfl) rfl (lv_at hlv 0 rfl) ?_
            exact hret 73 ls (some _) _ _ _ _ _ (Or.inl ⟨_, .int, rfl, rfl, rfl, (zda zDX8_set 73 rfl rfl)⟩) hv (⟨⟨_, rfl⟩, Or.inl ⟨⟨h6, by omega, by omega⟩, rfl⟩, fun k j hk => (zuv_n (by omega)).trans (zuv_n (by omega)), rfl⟩)
      · exact absurd h16 (by decide)
    · refine zV_callS C (zr_inF (by rw [Int32.lt_iff_toInt_lt, Int32.lt_iff_toInt_lt, show (Int32.ofInt 1).toInt = 1 by decide, show ((Int8.ofInt 8).toInt32).toInt = 8 by decide]; omega)) rfl rfl (by decide) (by decide) zw1336 zw1334 zw1335 zw16 (n := 3) (by decide +kernel) (zda zDX8_set 13 rfl rfl) rfl hv hlv.1 (by show 0 ≤ 8; decide) (Nat.zero_le _) (Nat.zero_le _) (fun v f9 g9 ws H locs hp hv => ?_)
      obtain ⟨rfl, rfl, rfl⟩ := hp
      refine lv_if_ne C.1 C.2.1 (zda zDX8_set 16 rfl rfl) (tgt := 39) (by decide) (fun h16 => ?_) (fun h16 => ?_)
      · exact absurd rfl h16
      · refine lv_goto C.1 C.2.1 (zda zDX8_set 19 rfl rfl) (tgt := 37) (by decide) ?_
        refine lv_iconst C.1 C.2.1 (zda zDX8_set 37 rfl rfl) rfl ?_
        exact hret 38 ls (some _) _ _ _ _ _ (Or.inl ⟨_, .int, rfl, rfl, rfl, (zda zDX8_set 38 rfl rfl)⟩) hv (⟨⟨_, rfl⟩, Or.inr ⟨fun q => q2 ⟨q.2.1, q.2.2⟩, hH⟩, fun k j hk => zuv_n (by omega), rfl⟩)
end ZSET
section ZRND3
variable {p : Program} {l : Launch} {e : Env} {s : State} {m : MethodId} {below : List Frame} {meth : Method} {c0 : Code} {b : Nat} {D : va_G} {tys : List (ClassId × FieldType)} {o : zO} {z : Nat} {nm : String} {L : Nat} {xs : Nat → Int32}
set_option maxHeartbeats 8000000 in
theorem zsp_set (E : zEnv tys) (C : zCx p room_1 s m #[Value.ref b] meth c0 D vwCl tys z (zXX o z) zTs RL cL_law 8 nm) (hX : va_X o.1 L xs s s.heap) (hbl : o.1 < s.heap.size) (hbA : ¬ zA z o.1) (hL : L ≤ 2560) {b1 b2 : zI} : zSpec p l e s m b below meth c0 D tys o z L xs zyI zyT3 (.ofNat 6, .ofNat 6) b1 b2 := by
  intro i K S g ls H locs ws hg h5 hi hK hS hj hm1 hm2 vst S0 hR hn
  obtain ⟨⟨xj, rfl, hxj⟩, hlv, hv⟩ := zop9 hg S0
  obtain ⟨x1, hy1, hy2⟩ := zjp_to hv (hR (zjp (1, 1, 94, 8)) (by unfold zyT3; simp))
  obtain ⟨x3, hM1, hM2⟩ := zjp_to hv (hR (zjp (3, 6, 94, 3)) (by unfold zyT3; simp))
  obtain ⟨-, -, hT⟩ := hR zjT (by unfold zyT3; simp)
  obtain ⟨z0, hE0a, hE0b⟩ := zjp_to hv (hR (zjp (3, 7, 94, 1)) (by unfold zyT3; simp))
  obtain ⟨y1, e1, r1⟩ := zV_int hv zvk94 (show 94 < 126 by decide) (j := 8) rfl
  obtain ⟨y3, e3, r3⟩ := zV_int hv zvk94 (show 94 < 126 by decide) (j := 3) rfl
  rw [hy2] at e1
  rw [hM2] at e3
  cases e1
  cases e3
  obtain ⟨n, rfl, hn8⟩ := zofI r1 (by decide)
  obtain ⟨c, rfl, hc8⟩ := zofI r3 (by decide)
  obtain ⟨y5, e5, r5⟩ := zV_int hv zvk94 (show 94 < 126 by decide) (j := 1) rfl
  rw [hE0b] at e5
  cases e5
  obtain ⟨hh, rfl, hh8⟩ := zofI (x := z0) ⟨by have := r5.1; show (0 : Int) ≤ z0.toInt; exact Int.le_trans (by decide) this, r5.2⟩ (by decide)
  have hh8 : hh ≤ 8 := by
    have q : (hh : Int) ≤ 8 := hh8
    omega
  have hn8 : n ≤ 80 := by
    have q : (n : Int) ≤ 80 := hn8
    omega
  have hc8 : c ≤ 8 := by
    have q : (c : Int) ≤ 8 := hc8
    omega
  generalize hfe : zwV ws = f at *
  generalize hge : zwA ws = g0 at *
  generalize hbe : zwB ws = bb at *
  have hxj2 : xj.toInt = 6 := by
    obtain ⟨q1, q2⟩ := hxj
    have q1 : (6 : Int) ≤ xj.toInt := q1
    have q2 : xj.toInt ≤ (6 : Int) := q2
    omega
  refine lv_tableIn C.1 C.2.1 (zdaP zDL0 39 (by decide) rfl rfl) (by rw [hxj2]; decide) (by rw [hxj2]; decide) (off := 366) (by rw [hxj2]; rfl) (tgt := 405) (by decide) ?_
  obtain ⟨B1, hB1, -⟩ := zV_int hv zvk3 (show 3 < 126 by decide) (j := 8) rfl
  obtain ⟨B2, hB2, -⟩ := zV_int hv zvk94 (show 94 < 126 by decide) (j := 2) rfl
  refine lv_aload_n C.1 C.2.1 (zdaP zDL1 405 (by decide) rfl rfl) rfl (lv_at hlv 2 rfl) ?_
  refine lv_aload_n C.1 C.2.1 (zdaP zDL1 406 (by decide) rfl rfl) rfl (lv_at hlv 1 rfl) ?_
  refine lv_iload C.1 C.2.1 (zdaP zDL1 407 (by decide) rfl rfl) (lv_at hlv 0 rfl) ?_
  refine lv_iconst C.1 C.2.1 (zdaP zDL1 409 (by decide) rfl rfl) rfl ?_
  refine lv_iadd C.1 C.2.1 (zdaP zDL1 410 (by decide) rfl rfl) ?_
  refine va_sld C.1 C.2.1 hX hbl hbA hv.2.2.2.1 (vp_in_iff.mpr ⟨by rw [show Int32.ofInt 1 = Int32.ofInt ((1 : Nat) : Int) by decide, zsc1 hi (by decide)]; omega, by rw [show Int32.ofInt 1 = Int32.ofInt ((1 : Nat) : Int) by decide, zsc1 hi (by decide)]; omega⟩) (zdaP zDL1 411 (by decide) rfl rfl) ?_
  refine lv_aload_n C.1 C.2.1 (zdaP zDL1 412 (by decide) rfl rfl) rfl (lv_at hlv 1 rfl) ?_
  refine lv_iload C.1 C.2.1 (zdaP zDL1 413 (by decide) rfl rfl) (lv_at hlv 0 rfl) ?_
  refine lv_iconst C.1 C.2.1 (zdaP zDL1 415 (by decide) rfl rfl) rfl ?_
  refine lv_iadd C.1 C.2.1 (zdaP zDL1 416 (by decide) rfl rfl) ?_
  refine va_sld C.1 C.2.1 hX hbl hbA hv.2.2.2.1 (vp_in_iff.mpr ⟨by rw [show Int32.ofInt 2 = Int32.ofInt ((2 : Nat) : Int) by decide, zsc1 hi (by decide)]; omega, by rw [show Int32.ofInt 2 = Int32.ofInt ((2 : Nat) : Int) by decide, zsc1 hi (by decide)]; omega⟩) (zdaP zDL1 417 (by decide) rfl rfl) ?_
  refine zV_callV C (zc_set (x1 := xs (Int32.ofNat i + Int32.ofInt 1).toNatClampNeg) (x2 := xs (Int32.ofNat i + Int32.ofInt 2).toNatClampNeg) hE0a hB1) rfl rfl (by decide) (by decide) (show vwCl[7]? = some (RX7, TX7, 16) from rfl) zw587 zw584 zw585 zw586 zw1 (n := 2) (by decide +kernel) (zdaP zDL1 418 (by decide) rfl rfl) rfl zvk0 (show 0 < 126 by decide) hv hlv.1 (by show 0 ≤ 8; decide) (by show 0 + K ≤ 601024; omega) (by show 0 + S ≤ 7293034; omega) (fun v f8 g8 ws H locs hp hv => ?_)
  obtain ⟨⟨w1, rfl⟩, hcs, k2, rfl⟩ := hp
  refine lv_pop C.1 C.2.1 (zdaP zDL1 421 (by decide) rfl rfl) rfl ?_
  refine lv_aload_n C.1 C.2.1 (zdaP zDL1 422 (by decide) rfl rfl) rfl (lv_at hlv 3 rfl) ?_
  refine lv_aload_n C.1 C.2.1 (zdaP zDL1 423 (by decide) rfl rfl) rfl (lv_at hlv 1 rfl) ?_
  refine lv_iload C.1 C.2.1 (zdaP zDL1 424 (by decide) rfl rfl) (lv_at hlv 0 rfl) ?_
  refine lv_iconst C.1 C.2.1 (zdaP zDL1 426 (by decide) rfl rfl) rfl ?_
  refine lv_iadd C.1 C.2.1 (zdaP zDL1 427 (by decide) rfl rfl) ?_
  refine va_sld C.1 C.2.1 hX hbl hbA hv.2.2.2.1 (vp_in_iff.mpr ⟨by rw [show Int32.ofInt 1 = Int32.ofInt ((1 : Nat) : Int) by decide, zsc1 hi (by decide)]; omega, by rw [show Int32.ofInt 1 = Int32.ofInt ((1 : Nat) : Int) by decide, zsc1 hi (by decide)]; omega⟩) (zdaP zDL1 428 (by decide) rfl rfl) ?_
  refine lv_aload_n C.1 C.2.1 (zdaP zDL1 429 (by decide) rfl rfl) rfl (lv_at hlv 1 rfl) ?_
  refine lv_iload C.1 C.2.1 (zdaP zDL1 430 (by decide) rfl rfl) (lv_at hlv 0 rfl) ?_
  refine lv_iconst C.1 C.2.1 (zdaP zDL1 432 (by decide) rfl rfl) rfl ?_
  refine lv_iadd C.1 C.2.1 (zdaP zDL1 433 (by decide) rfl rfl) ?_
  refine va_sld C.1 C.2.1 hX hbl hbA hv.2.2.2.1 (vp_in_iff.mpr ⟨by rw [show Int32.ofInt 2 = Int32.ofInt ((2 : Nat) : Int) by decide, zsc1 hi (by decide)]; omega, by rw [show Int32.ofInt 2 = Int32.ofInt ((2 : Nat) : Int) by decide, zsc1 hi (by decide)]; omega⟩) (zdaP zDL1 434 (by decide) rfl rfl) ?_
  refine zV_callV C (zr_set (x1 := xs (Int32.ofNat i + Int32.ofInt 1).toNatClampNeg) (x2 := xs (Int32.ofNat i + Int32.ofInt 2).toNatClampNeg) ((k2 94 1 (by decide)).trans hE0b) ((k2 94 2 (by decide)).trans hB2)) rfl rfl (by decide) (by decide) (show vwCl[8]? = some (RX8, TX8, 51) from rfl) zw1445 zw1442 zw1443 zw1444 zw16 (n := 2) (by decide +kernel) (zdaP zDL1 435 (by decide) rfl rfl) rfl zvk94 (show 94 < 126 by decide) hv hlv.1 (by show 0 ≤ 8; decide) (by show 0 + K ≤ 601024; omega) (by show 0 + S ≤ 7293034; omega) (fun v f9 g9 ws H locs hp hv => ?_)
  obtain ⟨⟨w2, rfl⟩, hct, j2, rfl⟩ := hp
  have hpr : ∃ y : Int32, f9 3 7 = .int y ∧ f9 94 1 = .int y := by
    rcases hcs with ⟨u1, u2⟩ | ⟨u1, u2⟩
    · rcases hct with ⟨v1, v2⟩ | ⟨v1, v2⟩
      · exact ⟨_, (j2 3 7 (by decide)).trans u2, v2⟩
      · exact absurd u1 v1
    · rcases hct with ⟨v1, v2⟩ | ⟨v1, v2⟩
      · exact absurd v1 u1
      · exact ⟨_, (j2 3 7 (by decide)).trans u2, v2⟩
  obtain ⟨yy, hp1, hp2⟩ := hpr
  refine lv_pop C.1 C.2.1 (zdaP zDL1 438 (by decide) rfl rfl) rfl ?_
  refine lv_goto C.1 C.2.1 (zdaP zDL1 439 (by decide) rfl rfl) (tgt := 1436) (by decide) ?_
  refine lv_iinc C.1 C.2.1 (zdaP zDL5 1436 (by decide) rfl rfl) hlv (k := 0) rfl rfl (by decide) (lv' := [(4, .int ((Int32.ofNat i) + Int32.ofInt 5)), (0, .ref o.1), (1, .ref (bb 0)), (2, .ref (bb 94)), (3, .ref (bb 125))]) rfl (fun ls hlv => ?_)
  rw [zinc5 hi] at hlv
  refine lv_goto C.1 C.2.1 (zdaP zDL5 1439 (by decide) rfl rfl) (tgt := 23) (by decide) ?_
  refine zcl9 (by omega) hn hlv hv ?_
  intro q hq
  unfold zyT3 at hq
  simp only [List.mem_cons, List.not_mem_nil, or_false] at hq
  rcases hq with rfl | rfl | rfl | rfl
  · exact zjp_of hv zvk1 (by decide) rfl zvk94 (by decide) rfl ((j2 1 1 (by decide)).trans ((k2 1 1 (by decide)).trans hy1)) ((j2 94 8 (by decide)).trans ((k2 94 8 (by decide)).trans hy2))
  · exact zjT_of hv (hT)
  · exact zjp_of hv zvk3 (by decide) rfl zvk94 (by decide) rfl ((j2 3 6 (by decide)).trans ((k2 3 6 (by decide)).trans hM1)) ((j2 94 3 (by decide)).trans ((k2 94 3 (by decide)).trans hM2))
  · exact zjp_of hv zvk3 (by decide) rfl zvk94 (by decide) rfl hp1 hp2
set_option maxHeartbeats 8000000 in
theorem zsp_rota (E : zEnv tys) (C : zCx p room_1 s m #[Value.ref b] meth c0 D vwCl tys z (zXX o z) zTs RL cL_law 8 nm) (hX : va_X o.1 L xs s s.heap) (hbl : o.1 < s.heap.size) (hbA : ¬ zA z o.1) (hL : L ≤ 2560) {b1 b2 : zI} : zSpec p l e s m b below meth c0 D tys o z L xs zyI zyT3 (.ofNat 8, .ofNat 8) b1 b2 := by
  intro i K S g ls H locs ws hg h5 hi hK hS hj hm1 hm2 vst S0 hR hn
  obtain ⟨⟨xj, rfl, hxj⟩, hlv, hv⟩ := zop9 hg S0
  obtain ⟨x1, hy1, hy2⟩ := zjp_to hv (hR (zjp (1, 1, 94, 8)) (by unfold zyT3; simp))
  obtain ⟨x3, hM1, hM2⟩ := zjp_to hv (hR (zjp (3, 6, 94, 3)) (by unfold zyT3; simp))
  obtain ⟨-, -, hT⟩ := hR zjT (by unfold zyT3; simp)
  obtain ⟨z0, hE0a, hE0b⟩ := zjp_to hv (hR (zjp (3, 7, 94, 1)) (by unfold zyT3; simp))
  obtain ⟨y1, e1, r1⟩ := zV_int hv zvk94 (show 94 < 126 by decide) (j := 8) rfl
  obtain ⟨y3, e3, r3⟩ := zV_int hv zvk94 (show 94 < 126 by decide) (j := 3) rfl
  rw [hy2] at e1
  rw [hM2] at e3
  cases e1
  cases e3
  obtain ⟨n, rfl, hn8⟩ := zofI r1 (by decide)
  obtain ⟨c, rfl, hc8⟩ := zofI r3 (by decide)
  obtain ⟨y5, e5, r5⟩ := zV_int hv zvk94 (show 94 < 126 by decide) (j := 1) rfl
  rw [hE0b] at e5
  cases e5
  obtain ⟨hh, rfl, hh8⟩ := zofI (x := z0) ⟨by have := r5.1; show (0 : Int) ≤ z0.toInt; exact Int.le_trans (by decide) this, r5.2⟩ (by decide)
  have hh8 : hh ≤ 8 := by
    have q : (hh : Int) ≤ 8 := hh8
    omega
  have hn8 : n ≤ 80 := by
    have q : (n : Int) ≤ 80 := hn8
    omega
  have hc8 : c ≤ 8 := by
    have q : (c : Int) ≤ 8 := hc8
    omega
  generalize hfe : zwV ws = f at *
  generalize hge : zwA ws = g0 at *
  generalize hbe : zwB ws = bb at *
  have hxj2 : xj.toInt = 8 := by
    obtain ⟨q1, q2⟩ := hxj
    have q1 : (8 : Int) ≤ xj.toInt := q1
    have q2 : xj.toInt ≤ (8 : Int) := q2
    omega
  refine lv_tableIn C.1 C.2.1 (zdaP zDL0 39 (by decide) rfl rfl) (by rw [hxj2]; decide) (by rw [hxj2]; decide) (off := 464) (by rw [hxj2]; rfl) (tgt := 503) (by decide) ?_
  refine lv_aload_n C.1 C.2.1 (zdaP zDL1 503 (by decide) rfl rfl) rfl (lv_at hlv 2 rfl) ?_
  refine zV_callV C (zc_rota E hM1 hE0a hy1 hc8 hh8 hn8) rfl rfl (by decide) (by decide) (show vwCl[7]? = some (RX7, TX7, 16) from rfl) zw604 zw601 zw602 zw603 zw1 (n := 0) (by decide +kernel) (zdaP zDL1 504 (by decide) rfl rfl) rfl zvk0 (show 0 < 126 by decide) hv hlv.1 (by show 0 ≤ 8; decide) (by show 0 + K ≤ 601024; omega) (by show 0 + S ≤ 7293034; omega) (fun v f9 g9 ws H locs hp hv => ?_)
  obtain ⟨ans, rfl, hA, p1, p2, p3, p4, p5⟩ := hp
  refine lv_aload_n C.1 C.2.1 (zdaP zDL1 507 (by decide) rfl rfl) rfl (lv_at hlv 3 rfl) ?_
  refine zV_callV C (zr_rota E (p3.2.2.2.trans hM2) (p3.2.2.1.trans hE0b) (p2.trans hy2) hc8 hh8 hn8) rfl rfl (by decide) (by decide) (show vwCl[8]? = some (RX8, TX8, 51) from rfl) zw1453 zw1450 zw1451 zw1452 zw16 (n := 0) (by decide +kernel) (zdaP zDL1 508 (by decide) rfl rfl) rfl zvk94 (show 94 < 126 by decide) hv hlv.1 (by show 1 ≤ 8; decide) (by show 0 + K ≤ 601024; omega) (by show 0 + S ≤ 7293034; omega) (fun v f9 g9 ws H locs hp hv => ?_)
  obtain ⟨ans2, rfl, hA2, q1, q2, q3, q4, q5⟩ := hp
  rw [p5] at hA2
  have hans := zRo_one (zRo_cg hT hn8 hh8 hA) hA2
  subst hans
  refine lv_icmp_eq C.1 C.2.1 (zdaP zDL1 511 (by decide) rfl rfl) (tgt := 1436) (by decide) (fun h511 => ?_) (fun h511 => ?_)
  · refine lv_iinc C.1 C.2.1 (zdaP zDL5 1436 (by decide) rfl rfl) hlv (k := 0) rfl rfl (by decide) (lv' := [(4, .int ((Int32.ofNat i) + Int32.ofInt 5)), (0, .ref o.1), (1, .ref (bb 0)), (2, .ref (bb 94)), (3, .ref (bb 125))]) rfl (fun ls hlv => ?_)
    rw [zinc5 hi] at hlv
    refine lv_goto C.1 C.2.1 (zdaP zDL5 1439 (by decide) rfl rfl) (tgt := 23) (by decide) ?_
    refine zcl9 (by omega) hn hlv hv ?_
    intro q hq
    unfold zyT3 at hq
    simp only [List.mem_cons, List.not_mem_nil, or_false] at hq
    rcases hq with rfl | rfl | rfl | rfl
    · exact zjp_of hv zvk1 (by decide) rfl zvk94 (by decide) rfl (q2.trans p1) (q1)
    · exact zjT_of hv (by rw [q4, q5, p4, p5]; exact hT)
    · exact zjp_of hv zvk3 (by decide) rfl zvk94 (by decide) rfl (q3.1.trans (p3.1.trans hM1)) (q3.2.2.2.trans (p3.2.2.2.trans hM2))
    · exact zjp_of hv zvk3 (by decide) rfl zvk94 (by decide) rfl (q3.2.1.trans (p3.2.1.trans hE0a)) (q3.2.2.1.trans (p3.2.2.1.trans hE0b))
  · exact absurd rfl h511
end ZRND3
