noncomputable def zvf0 : List zAV := [.inr (.inr (.inl 1)), .inr (.inr (.inl 3)), .inr (.inr (.inl 15)), .inr (.inr (.inl 18)), .inr (.inr (.inl 21)), .inr (.inr (.inl 24)), .inr (.inr (.inl 62)), .inr (.inr (.inl 63)), .inr (.inr (.inl 64)), .inr (.inr (.inl 78)), .inr (.inr (.inl 80)), .inr (.inr (.inl 81)), .inr (.inr (.inl 82)), .inl ((.ofNat 0, .ofNat 12), none), .inr (.inr (.inl 83)), .inl ((.negSucc 2147483647, .ofNat 2147483647), none)]
set_option maxRecDepth 100000 in
theorem zvk0 : zrget zyI.2.1 0 = some (.inr (7, zvf0)) := rfl
noncomputable def zvf1 : List zAV := [.inr (.inr (.inl 2)), .inl ((.ofNat 0, .ofNat 80), none)]
set_option maxRecDepth 100000 in
theorem zvk1 : zrget zyI.2.1 1 = some (.inr (6, zvf1)) := rfl
noncomputable def zvf2 : zR zAV := [[], [.inl ((.ofNat 0, .ofNat 255), none)]]
set_option maxRecDepth 100000 in
theorem zvk2 : zrget zyI.2.1 2 = some (.inl (0, 80, zvf2)) := rfl
theorem zvl2 : zfor (zele zvf2 (0) 255) 80 = true := by decide +kernel
theorem zve2 : zfor (zelr zvf2 (0) 255) 80 = true := by decide +kernel
noncomputable def zvf3 : List zAV := [.inr (.inr (.inl 4)), .inr (.inr (.inl 5)), .inr (.inr (.inl 6)), .inr (.inr (.inl 7)), .inr (.inr (.inl 8)), .inr (.inr (.inl 9)), .inl ((.ofNat 0, .ofNat 8), none), .inl ((.ofNat 1, .ofNat 8), none), .inl ((.ofNat 0, .ofNat 9), none), .inr (.inr (.inl 10)), .inl ((.ofNat 0, .ofNat 255), none), .inl ((.ofNat 0, .ofNat 255), none)]
set_option maxRecDepth 100000 in
theorem zvk3 : zrget zyI.2.1 3 = some (.inr (0, zvf3)) := rfl
noncomputable def zvf4 : zR zAV := [[], [.inl ((.ofNat 0, .ofNat 255), none)]]
set_option maxRecDepth 100000 in
theorem zvk4 : zrget zyI.2.1 4 = some (.inl (0, 8, zvf4)) := rfl
theorem zvl4 : zfor (zele zvf4 (0) 255) 8 = true := by decide +kernel
theorem zve4 : zfor (zelr zvf4 (0) 255) 8 = true := by decide +kernel
noncomputable def zvf5 : zR zAV := [[], [.inl ((.ofNat 0, .ofNat 4), none)]]
set_option maxRecDepth 100000 in
theorem zvk5 : zrget zyI.2.1 5 = some (.inl (0, 8, zvf5)) := rfl
theorem zvl5 : zfor (zele zvf5 (0) 4) 8 = true := by decide +kernel
theorem zve5 : zfor (zelr zvf5 (0) 4) 8 = true := by decide +kernel
noncomputable def zvf6 : zR zAV := [[], [.inl ((.ofNat 0, .ofNat 9), none)]]
set_option maxRecDepth 100000 in
theorem zvk6 : zrget zyI.2.1 6 = some (.inl (0, 8, zvf6)) := rfl
theorem zvl6 : zfor (zele zvf6 (0) 9) 8 = true := by decide +kernel
theorem zve6 : zfor (zelr zvf6 (0) 9) 8 = true := by decide +kernel
noncomputable def zvf24 : List zAV := [.inr (.inr (.inl 25)), .inl ((.ofNat 0, .ofNat 11), none), .inl ((.negSucc 2147483647, .ofNat 2147483647), none)]
set_option maxRecDepth 100000 in
theorem zvk24 : zrget zyI.2.1 24 = some (.inr (2, zvf24)) := rfl
noncomputable def zvf80 : zR zAV := [[], [.inl ((.ofNat 0, .ofNat 7), none)]]
set_option maxRecDepth 100000 in
theorem zvk80 : zrget zyI.2.1 80 = some (.inl (0, 12, zvf80)) := rfl
theorem zvl80 : zfor (zele zvf80 (0) 7) 12 = true := by decide +kernel
theorem zve80 : zfor (zelr zvf80 (0) 7) 12 = true := by decide +kernel
noncomputable def zvf81 : zR zAV := [[], [.inl ((.ofNat 0, .ofNat 7), none)]]
set_option maxRecDepth 100000 in
theorem zvk81 : zrget zyI.2.1 81 = some (.inl (0, 12, zvf81)) := rfl
theorem zvl81 : zfor (zele zvf81 (0) 7) 12 = true := by decide +kernel
theorem zve81 : zfor (zelr zvf81 (0) 7) 12 = true := by decide +kernel
noncomputable def zvf82 : zR zAV := [[], [.inl ((.ofNat 0, .ofNat 1), none)]]
set_option maxRecDepth 100000 in
theorem zvk82 : zrget zyI.2.1 82 = some (.inl (0, 12, zvf82)) := rfl
theorem zvl82 : zfor (zele zvf82 (0) 1) 12 = true := by decide +kernel
theorem zve82 : zfor (zelr zvf82 (0) 1) 12 = true := by decide +kernel
noncomputable def zvf94 : List zAV := [.inr (.inr (.inl 95)), .inl ((.ofNat 1, .ofNat 8), none), .inl ((.ofNat 0, .ofNat 9), none), .inl ((.ofNat 0, .ofNat 8), none), .inr (.inr (.inl 96)), .inr (.inr (.inl 97)), .inr (.inr (.inl 98)), .inr (.inr (.inl 99)), .inl ((.ofNat 0, .ofNat 80), none), .inr (.inr (.inl 100)), .inl ((.ofNat 0, .ofNat 8), none), .inl ((.ofNat 0, .ofNat 1), none), .inr (.inr (.inr (.inr 100))), .inl ((.ofNat 0, .ofNat 80), none), .inl ((.ofNat 0, .ofNat 76), none), .inl ((.ofNat 0, .ofNat 76), none), .inl ((.negSucc 0, .ofNat 80), none), .inr (.inr (.inl 101)), .inr (.inr (.inl 102)), .inr (.inr (.inl 103)), .inl ((.ofNat 0, .ofNat 40), none), .inl ((.ofNat 0, .ofNat 0), none), .inr (.inr (.inl 104)), .inr (.inr (.inl 105)), .inl ((.ofNat 0, .ofNat 12), none), .inr (.inr (.inl 106)), .inr (.inr (.inl 107)), .inl ((.ofNat 0, .ofNat 255), none), .inl ((.ofNat 0, .ofNat 255), none), .inr (.inr (.inl 108)), .inr (.inr (.inl 109)), .inr (.inr (.inl 110)), .inr (.inr (.inl 111)), .inr (.inr (.inl 112)), .inr (.inr (.inl 113)), .inr (.inr (.inl 114)), .inr (.inr (.inl 115)), .inr (.inr (.inl 116)), .inr (.inr (.inl 117)), .inl ((.ofNat 1000000000, .ofNat 1000000000), none), .inr (.inr (.inl 118)), .inr (.inr (.inl 119)), .inr (.inr (.inl 120)), .inr (.inr (.inl 121)), .inl ((.negSucc 2147483647, .ofNat 2147483647), none), .inl ((.ofNat 0, .ofNat 12), none), .inl ((.negSucc 2147483647, .ofNat 2147483647), none), .inl ((.negSucc 2147483647, .ofNat 2147483647), none), .inr (.inr (.inl 122)), .inr (.inr (.inl 123)), .inr (.inr (.inl 124))]
set_option maxRecDepth 100000 in
theorem zvk94 : zrget zyI.2.1 94 = some (.inr (8, zvf94)) := rfl
noncomputable def zvf95 : zR zAV := [[.inl ((.negSucc 0, .ofNat 7), none), .inl ((.negSucc 0, .ofNat 7), none), .inl ((.negSucc 0, .ofNat 7), none), .inl ((.negSucc 0, .ofNat 7), none), .inl ((.negSucc 0, .ofNat 7), none), .inl ((.negSucc 0, .ofNat 7), none), .inl ((.negSucc 0, .ofNat 7), none), .inl ((.negSucc 0, .ofNat 7), none), .inl ((.negSucc 2147483647, .ofNat 2147483647), none), .inl ((.negSucc 2147483647, .ofNat 2147483647), none), .inl ((.negSucc 2147483647, .ofNat 2147483647), none), .inl ((.negSucc 2147483647, .ofNat 2147483647), none), .inl ((.negSucc 2147483647, .ofNat 2147483647), none), .inl ((.negSucc 2147483647, .ofNat 2147483647), none), .inl ((.negSucc 2147483647, .ofNat 2147483647), none), .inl ((.negSucc 2147483647, .ofNat 2147483647), none)], [.inl ((.ofNat 0, .ofNat 1), none), .inl ((.ofNat 0, .ofNat 1), none), .inl ((.ofNat 0, .ofNat 1), none), .inl ((.ofNat 0, .ofNat 1), none), .inl ((.ofNat 0, .ofNat 1), none), .inl ((.ofNat 0, .ofNat 1), none), .inl ((.ofNat 0, .ofNat 1), none), .inl ((.ofNat 0, .ofNat 1), none), .inl ((.negSucc 2147483647, .ofNat 2147483647), none), .inl ((.negSucc 2147483647, .ofNat 2147483647), none), .inl ((.negSucc 2147483647, .ofNat 2147483647), none), .inl ((.ofNat 0, .ofNat 0), none), .inl ((.ofNat 0, .ofNat 0), none), .inl ((.ofNat 0, .ofNat 0), none), .inl ((.ofNat 0, .ofNat 0), none), .inl ((.ofNat 0, .ofNat 0), none)]]
set_option maxRecDepth 100000 in
theorem zvk95 : zrget zyI.2.1 95 = some (.inl (0, 27, zvf95)) := rfl
theorem zvl95 : zfor (zele zvf95 (-2147483648) 2147483647) 27 = true := by decide +kernel
theorem zve95 : zfor (zelr zvf95 (0) 1) 27 = true := by decide +kernel
noncomputable def zvf96 : zR zAV := [[], [.inl ((.negSucc 999, .ofNat 1000), none)]]
set_option maxRecDepth 100000 in
theorem zvk96 : zrget zyI.2.1 96 = some (.inl (0, 8, zvf96)) := rfl
theorem zvl96 : zfor (zele zvf96 (-1000) 1000) 8 = true := by decide +kernel
theorem zve96 : zfor (zelr zvf96 (-1000) 1000) 8 = true := by decide +kernel
noncomputable def zvf97 : zR zAV := [[], [.inl ((.negSucc 999, .ofNat 1000), none)]]
set_option maxRecDepth 100000 in
theorem zvk97 : zrget zyI.2.1 97 = some (.inl (0, 8, zvf97)) := rfl
theorem zvl97 : zfor (zele zvf97 (-1000) 1000) 8 = true := by decide +kernel
theorem zve97 : zfor (zelr zvf97 (-1000) 1000) 8 = true := by decide +kernel
noncomputable def zvf98 : zR zAV := [[], [.inl ((.negSucc 2147483647, .ofNat 2147483647), none)]]
set_option maxRecDepth 100000 in
theorem zvk98 : zrget zyI.2.1 98 = some (.inl (0, 8, zvf98)) := rfl
theorem zvl98 : zfor (zele zvf98 (-2147483648) 2147483647) 8 = true := by decide +kernel
theorem zve98 : zfor (zelr zvf98 (-2147483648) 2147483647) 8 = true := by decide +kernel
noncomputable def zvf99 : zR zAV := [[.inl ((.negSucc 127, .ofNat 127), none), .inl ((.negSucc 127, .ofNat 127), none), .inl ((.negSucc 127, .ofNat 127), none), .inl ((.negSucc 127, .ofNat 127), none), .inl ((.negSucc 127, .ofNat 127), none), .inl ((.negSucc 127, .ofNat 127), none), .inl ((.negSucc 127, .ofNat 127), none), .inl ((.negSucc 127, .ofNat 127), none), .inl ((.negSucc 127, .ofNat 127), none), .inl ((.negSucc 127, .ofNat 127), none), .inl ((.negSucc 127, .ofNat 127), none), .inl ((.negSucc 127, .ofNat 127), none), .inl ((.negSucc 127, .ofNat 127), none), .inl ((.negSucc 127, .ofNat 127), none), .inl ((.negSucc 127, .ofNat 127), none), .inl ((.negSucc 127, .ofNat 127), none)], [.inl ((.negSucc 127, .ofNat 127), none), .inl ((.negSucc 127, .ofNat 127), none), .inl ((.negSucc 127, .ofNat 127), none), .inl ((.negSucc 127, .ofNat 127), none), .inl ((.negSucc 127, .ofNat 127), none), .inl ((.negSucc 127, .ofNat 127), none), .inl ((.negSucc 127, .ofNat 127), none), .inl ((.negSucc 127, .ofNat 127), none), .inl ((.negSucc 127, .ofNat 127), none), .inl ((.negSucc 127, .ofNat 127), none), .inl ((.negSucc 127, .ofNat 127), none), .inl ((.negSucc 127, .ofNat 127), none), .inl ((.negSucc 127, .ofNat 127), none), .inl ((.negSucc 127, .ofNat 127), none), .inl ((.negSucc 127, .ofNat 127), none), .inl ((.negSucc 127, .ofNat 127), none)], [.inl ((.negSucc 127, .ofNat 127), none), .inl ((.negSucc 127, .ofNat 127), none), .inl ((.negSucc 127, .ofNat 127), none), .inl ((.negSucc 127, .ofNat 127), none), .inl ((.negSucc 127, .ofNat 127), none), .inl ((.negSucc 127, .ofNat 127), none), .inl ((.negSucc 127, .ofNat 127), none), .inl ((.negSucc 127, .ofNat 127), none), .inl ((.negSucc 127, .ofNat 127), none), .inl ((.negSucc 127, .ofNat 127), none), .inl ((.negSucc 127, .ofNat 127), none), .inl ((.negSucc 127, .ofNat 127), none), .inl ((.negSucc 127, .ofNat 127), none), .inl ((.negSucc 127, .ofNat 127), none), .inl ((.negSucc 127, .ofNat 127), none), .inl ((.negSucc 127, .ofNat 127), none)], [.inl ((.negSucc 127, .ofNat 127), none), .inl ((.negSucc 127, .ofNat 127), none), .inl ((.negSucc 127, .ofNat 127), none), .inl ((.negSucc 127, .ofNat 127), none), .inl ((.negSucc 127, .ofNat 127), none), .inl ((.negSucc 127, .ofNat 127), none), .inl ((.negSucc 127, .ofNat 127), none), .inl ((.negSucc 127, .ofNat 127), none), .inl ((.negSucc 127, .ofNat 127), none), .inl ((.negSucc 127, .ofNat 127), none), .inl ((.negSucc 127, .ofNat 127), none), .inl ((.negSucc 127, .ofNat 127), none), .inl ((.negSucc 127, .ofNat 127), none), .inl ((.negSucc 127, .ofNat 127), none), .inl ((.negSucc 127, .ofNat 127), none), .inl ((.negSucc 127, .ofNat 127), none)], [.inl ((.negSucc 127, .ofNat 127), none), .inl ((.negSucc 127, .ofNat 127), none), .inl ((.negSucc 127, .ofNat 127), none), .inl ((.negSucc 127, .ofNat 127), none), .inl ((.negSucc 127, .ofNat 127), none), .inl ((.negSucc 127, .ofNat 127), none), .inl ((.negSucc 127, .ofNat 127), none), .inl ((.negSucc 127, .ofNat 127), none), .inl ((.negSucc 127, .ofNat 127), none), .inl ((.negSucc 127, .ofNat 127), none), .inl ((.negSucc 127, .ofNat 127), none), .inl ((.negSucc 127, .ofNat 127), none), .inl ((.negSucc 127, .ofNat 127), none), .inl ((.negSucc 127, .ofNat 127), none), .inl ((.negSucc 127, .ofNat 127), none), .inl ((.negSucc 127, .ofNat 127), none)], [.inl ((.ofNat 0, .ofNat 0), none), .inl ((.ofNat 0, .ofNat 0), none), .inl ((.ofNat 0, .ofNat 0), none), .inl ((.ofNat 0, .ofNat 0), none), .inl ((.ofNat 0, .ofNat 0), none), .inl ((.ofNat 0, .ofNat 0), none), .inl ((.ofNat 0, .ofNat 0), none), .inl ((.ofNat 0, .ofNat 0), none), .inl ((.ofNat 0, .ofNat 0), none), .inl ((.ofNat 0, .ofNat 0), none), .inl ((.ofNat 0, .ofNat 0), none), .inl ((.ofNat 0, .ofNat 0), none), .inl ((.ofNat 0, .ofNat 0), none), .inl ((.ofNat 0, .ofNat 0), none), .inl ((.ofNat 0, .ofNat 0), none), .inl ((.ofNat 0, .ofNat 0), none)]]
set_option maxRecDepth 100000 in
theorem zvk99 : zrget zyI.2.1 99 = some (.inl (3, 80, zvf99)) := rfl
theorem zvl99 : zfor (zele zvf99 (-128) 127) 80 = true := by decide +kernel
theorem zve99 : zfor (zelr zvf99 (-128) 127) 80 = true := by decide +kernel
noncomputable def zvf101 : zR zAV := [[.inl ((.negSucc 999, .ofNat 1000), none), .inl ((.negSucc 999, .ofNat 1000), none), .inl ((.negSucc 2147483647, .ofNat 2147483647), none), .inl ((.negSucc 999, .ofNat 1000), none), .inl ((.negSucc 999, .ofNat 1000), none), .inl ((.negSucc 2147483647, .ofNat 2147483647), none), .inl ((.negSucc 999, .ofNat 1000), none), .inl ((.negSucc 999, .ofNat 1000), none), .inl ((.negSucc 2147483647, .ofNat 2147483647), none), .inl ((.negSucc 999, .ofNat 1000), none), .inl ((.negSucc 999, .ofNat 1000), none), .inl ((.negSucc 2147483647, .ofNat 2147483647), none), .inl ((.negSucc 999, .ofNat 1000), none), .inl ((.negSucc 999, .ofNat 1000), none), .inl ((.negSucc 2147483647, .ofNat 2147483647), none), .inl ((.negSucc 999, .ofNat 1000), none)], [.inl ((.negSucc 999, .ofNat 1000), none), .inl ((.negSucc 2147483647, .ofNat 2147483647), none), .inl ((.negSucc 999, .ofNat 1000), none), .inl ((.negSucc 999, .ofNat 1000), none), .inl ((.negSucc 2147483647, .ofNat 2147483647), none), .inl ((.negSucc 999, .ofNat 1000), none), .inl ((.negSucc 999, .ofNat 1000), none), .inl ((.negSucc 2147483647, .ofNat 2147483647), none), .inl ((.ofNat 0, .ofNat 0), none), .inl ((.ofNat 0, .ofNat 0), none), .inl ((.ofNat 0, .ofNat 0), none), .inl ((.ofNat 0, .ofNat 0), none), .inl ((.ofNat 0, .ofNat 0), none), .inl ((.ofNat 0, .ofNat 0), none), .inl ((.ofNat 0, .ofNat 0), none), .inl ((.ofNat 0, .ofNat 0), none)]]
set_option maxRecDepth 100000 in
theorem zvk101 : zrget zyI.2.1 101 = some (.inl (0, 24, zvf101)) := rfl
theorem zvl101 : zfor (zele zvf101 (-2147483648) 2147483647) 24 = true := by decide +kernel
theorem zve101 : zfor (zelr zvf101 (-1000) 1000) 24 = true := by decide +kernel
noncomputable def zvf120 : zR zAV := [[], [.inl ((.ofNat 0, .ofNat 7), none)]]
set_option maxRecDepth 100000 in
theorem zvk120 : zrget zyI.2.1 120 = some (.inl (0, 12, zvf120)) := rfl
theorem zvl120 : zfor (zele zvf120 (0) 7) 12 = true := by decide +kernel
theorem zve120 : zfor (zelr zvf120 (0) 7) 12 = true := by decide +kernel
noncomputable def zvf121 : zR zAV := [[], [.inl ((.ofNat 0, .ofNat 7), none)]]
set_option maxRecDepth 100000 in
theorem zvk121 : zrget zyI.2.1 121 = some (.inl (0, 12, zvf121)) := rfl
theorem zvl121 : zfor (zele zvf121 (0) 7) 12 = true := by decide +kernel
theorem zve121 : zfor (zelr zvf121 (0) 7) 12 = true := by decide +kernel
