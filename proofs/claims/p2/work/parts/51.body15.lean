theorem zyGS : ∀ j ∈ zyjs, ∀ b1 ∈ zyB1 j, ∀ b2 ∈ zyB2 j, zbodyG zyds zyJs zyI j b1 b2 = true ∨ ∀ h ∈ zyfm, zbodyS zyds zyJs zyP zyI h j b1 b2 = true := by
  intro j hj b1 hb1 b2 hb2
  simp only [zyjs, List.mem_cons, List.not_mem_nil, or_false] at hj
  rcases hj with rfl | rfl | rfl | rfl | rfl
  · refine Or.inr (fun h hh => ?_)
    obtain ⟨i, hi, rfl⟩ := List.mem_map.mp hh
    have hi := List.mem_range.mp hi
    exact zall_mem (zall_mem (zysp_0_ok i hi) b1 hb1) b2 hb2
  · refine Or.inr (fun h hh => ?_)
    obtain ⟨i, hi, rfl⟩ := List.mem_map.mp hh
    have hi := List.mem_range.mp hi
    exact zall_mem (zall_mem (zysp_1_ok i hi) b1 hb1) b2 hb2
  · have e1 := List.mem_singleton.mp hb1
    have e2 := List.mem_singleton.mp hb2
    subst e1
    subst e2
    exact Or.inl zyg_2
  · refine Or.inr (fun h hh => ?_)
    obtain ⟨i, hi, rfl⟩ := List.mem_map.mp hh
    have hi := List.mem_range.mp hi
    exact zall_mem (zall_mem (zysp_3_ok i hi) b1 hb1) b2 hb2
  · have e1 := List.mem_singleton.mp hb1
    have e2 := List.mem_singleton.mp hb2
    subst e1
    subst e2
    exact Or.inl zyg_4
