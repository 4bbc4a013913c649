theorem zyGS : ∀ j ∈ zyjs, ∀ b1 ∈ zyB1 j, ∀ b2 ∈ zyB2 j, zbodyG zyds zyJs zyI j b1 b2 = true ∨ ∀ h ∈ zyfm, zbodyS zyds zyJs zyP zyI h j b1 b2 = true := by
  intro j hj b1 hb1 b2 hb2
  simp only [zyjs, List.mem_cons, List.not_mem_nil, or_false] at hj
  rcases hj with rfl | rfl | rfl | rfl | rfl
  · have e1 := List.mem_singleton.mp hb1
    have e2 := List.mem_singleton.mp hb2
    subst e1
    subst e2
    exact Or.inl zyg_0
  · refine Or.inr (fun h hh => ?_)
    obtain ⟨i, hi, rfl⟩ := List.mem_map.mp hh
    have hi := List.mem_range.mp hi
    exact zall_mem (zall_mem (zysp_3_ok i hi) b1 hb1) b2 hb2
  · have e1 := List.mem_singleton.mp hb1
    have e2 := List.mem_singleton.mp hb2
    subst e1
    subst e2
    exact Or.inl zyg_4
  · have hb1 : b1 ∈ ([(.negSucc 2147483647, .negSucc 0), (.ofNat 0, .ofNat 0), (.ofNat 1, .ofNat 1), (.ofNat 2, .ofNat 2), (.ofNat 3, .ofNat 3), (.ofNat 4, .ofNat 4), (.ofNat 5, .ofNat 5), (.ofNat 6, .ofNat 6), (.ofNat 7, .ofNat 7), (.ofNat 8, .ofNat 8), (.ofNat 9, .ofNat 9), (.ofNat 10, .ofNat 2147483647)] : List zI) := hb1
    simp only [List.mem_cons, List.not_mem_nil, or_false] at hb1
    rcases hb1 with rfl | rfl | rfl | rfl | rfl | rfl | rfl | rfl | rfl | rfl | rfl | rfl
    · exact Or.inl (zall_mem zyg_43_0 b2 hb2)
    · exact Or.inl (zall_mem zyg_43_1 b2 hb2)
    · exact Or.inl (zall_mem zyg_43_2 b2 hb2)
    · exact Or.inl (zall_mem zyg_43_3 b2 hb2)
    · exact Or.inl (zall_mem zyg_43_4 b2 hb2)
    · exact Or.inl (zall_mem zyg_43_5 b2 hb2)
    · exact Or.inl (zall_mem zyg_43_6 b2 hb2)
    · exact Or.inl (zall_mem zyg_43_7 b2 hb2)
    · exact Or.inl (zall_mem zyg_43_8 b2 hb2)
    · exact Or.inl (zall_mem zyg_43_9 b2 hb2)
    · exact Or.inl (zall_mem zyg_43_10 b2 hb2)
    · exact Or.inl (zall_mem zyg_43_11 b2 hb2)
  · have e1 := List.mem_singleton.mp hb1
    have e2 := List.mem_singleton.mp hb2
    subst e1
    subst e2
    exact Or.inl zyg_44
