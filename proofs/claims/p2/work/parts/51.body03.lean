noncomputable def zysp_1 (i : Nat) : Bool := zall (fun b1 => zall (fun b2 => zbodyS zyds zyJs zyP zyI (zyX i) (.ofNat 1, .ofNat 1) b1 b2) (zyB2 (.ofNat 1, .ofNat 1))) (zyB1 (.ofNat 1, .ofNat 1))
set_option maxRecDepth 100000 in
theorem zysp_1_0 : zfor (fun i => zysp_1 (10 * 0 + i)) 10 = true := by decide +kernel
