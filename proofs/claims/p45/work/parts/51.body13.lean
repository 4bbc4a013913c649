noncomputable def zysp_3 (i : Nat) : Bool := zall (fun b1 => zall (fun b2 => zbodyS zyds zyJs zyP zyI (zyX i) (.ofNat 3, .ofNat 3) b1 b2) (zyB2 (.ofNat 3, .ofNat 3))) (zyB1 (.ofNat 3, .ofNat 3))
set_option maxRecDepth 100000 in
theorem zysp_3_0 : zfor (fun i => zysp_3 (10 * 0 + i)) 1 = true := by decide +kernel
