theorem zysp_3_ok (i : Nat) (hi : i < 1) : zysp_3 i = true := by
  have hc : i / 10 = 0 := by omega
  rcases hc with h
  · have h9 := zfor_ok zysp_3_0 (i % 10) (by omega)
    rw [show 10 * 0 + i % 10 = i by omega] at h9
    exact h9
