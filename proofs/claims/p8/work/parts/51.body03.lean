noncomputable def zysp_6 (i : Nat) : Bool := zall (fun b1 => zall (fun b2 => zbodyS zyds zyJs zyP zyI (zyX i) (.ofNat 6, .ofNat 6) b1 b2) (zyB2 (.ofNat 6, .ofNat 6))) (zyB1 (.ofNat 6, .ofNat 6))
set_option maxRecDepth 100000 in
theorem zysp_6_0 : zfor (fun i => zysp_6 (10 * 0 + i)) 10 = true := by decide +kernel
