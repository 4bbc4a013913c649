theorem zysp_0_ok (i : Nat) (hi : i < 81) : zysp_0 i = true := by
  have hc : i / 10 = 0 ∨ i / 10 = 1 ∨ i / 10 = 2 ∨ i / 10 = 3 ∨ i / 10 = 4 ∨ i / 10 = 5 ∨ i / 10 = 6 ∨ i / 10 = 7 ∨ i / 10 = 8 := by omega
  rcases hc with h | h | h | h | h | h | h | h | h
  · have h9 := zfor_ok zysp_0_0 (i % 10) (by omega)
    rw [show 10 * 0 + i % 10 = i by omega] at h9
    exact h9
  · have h9 := zfor_ok zysp_0_1 (i % 10) (by omega)
    rw [show 10 * 1 + i % 10 = i by omega] at h9
    exact h9
  · have h9 := zfor_ok zysp_0_2 (i % 10) (by omega)
    rw [show 10 * 2 + i % 10 = i by omega] at h9
    exact h9
  · have h9 := zfor_ok zysp_0_3 (i % 10) (by omega)
    rw [show 10 * 3 + i % 10 = i by omega] at h9
    exact h9
  · have h9 := zfor_ok zysp_0_4 (i % 10) (by omega)
    rw [show 10 * 4 + i % 10 = i by omega] at h9
    exact h9
  · have h9 := zfor_ok zysp_0_5 (i % 10) (by omega)
    rw [show 10 * 5 + i % 10 = i by omega] at h9
    exact h9
  · have h9 := zfor_ok zysp_0_6 (i % 10) (by omega)
    rw [show 10 * 6 + i % 10 = i by omega] at h9
    exact h9
  · have h9 := zfor_ok zysp_0_7 (i % 10) (by omega)
    rw [show 10 * 7 + i % 10 = i by omega] at h9
    exact h9
  · have h9 := zfor_ok zysp_0_8 (i % 10) (by omega)
    rw [show 10 * 8 + i % 10 = i by omega] at h9
    exact h9
