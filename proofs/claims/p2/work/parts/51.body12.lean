theorem zysp_1_ok (i : Nat) (hi : i < 81) : zysp_1 i = true := by
  have hc : i / 10 = 0 ∨ i / 10 = 1 ∨ i / 10 = 2 ∨ i / 10 = 3 ∨ i / 10 = 4 ∨ i / 10 = 5 ∨ i / 10 = 6 ∨ i / 10 = 7 ∨ i / 10 = 8 := by omega
  rcases hc with h | h | h | h | h | h | h | h | h
  · have h9 := zfor_ok zysp_1_0 (i % 10) (by omega)
    rw [show 10 * 0 + i % 10 = i by omega] at h9
    exact h9
  · have h9 := zfor_ok zysp_1_1 (i % 10) (by omega)
    rw [show 10 * 1 + i % 10 = i by omega] at h9
    exact h9
  · have h9 := zfor_ok zysp_1_2 (i % 10) (by omega)
    rw [show 10 * 2 + i % 10 = i by omega] at h9
    exact h9
  · have h9 := zfor_ok zysp_1_3 (i % 10) (by omega)
    rw [show 10 * 3 + i % 10 = i by omega] at h9
    exact h9
  · have h9 := zfor_ok zysp_1_4 (i % 10) (by omega)
    rw [show 10 * 4 + i % 10 = i by omega] at h9
    exact h9
  · have h9 := zfor_ok zysp_1_5 (i % 10) (by omega)
    rw [show 10 * 5 + i % 10 = i by omega] at h9
    exact h9
  · have h9 := zfor_ok zysp_1_6 (i % 10) (by omega)
    rw [show 10 * 6 + i % 10 = i by omega] at h9
    exact h9
  · have h9 := zfor_ok zysp_1_7 (i % 10) (by omega)
    rw [show 10 * 7 + i % 10 = i by omega] at h9
    exact h9
  · have h9 := zfor_ok zysp_1_8 (i % 10) (by omega)
    rw [show 10 * 8 + i % 10 = i by omega] at h9
    exact h9
