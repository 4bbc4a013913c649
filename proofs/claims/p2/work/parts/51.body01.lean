noncomputable def zysp_0 (i : Nat) : Bool := zall (fun b1 => zall (fun b2 => zbodyS zyds zyJs zyP zyI (zyX i) (.ofNat 0, .ofNat 0) b1 b2) (zyB2 (.ofNat 0, .ofNat 0))) (zyB1 (.ofNat 0, .ofNat 0))
set_option maxRecDepth 100000 in
theorem zysp_0_0 : zfor (fun i => zysp_0 (10 * 0 + i)) 10 = true := by decide +kernel
set_option maxRecDepth 100000 in
theorem zysp_0_1 : zfor (fun i => zysp_0 (10 * 1 + i)) 10 = true := by decide +kernel
set_option maxRecDepth 100000 in
theorem zysp_0_2 : zfor (fun i => zysp_0 (10 * 2 + i)) 10 = true := by decide +kernel
set_option maxRecDepth 100000 in
theorem zysp_0_3 : zfor (fun i => zysp_0 (10 * 3 + i)) 10 = true := by decide +kernel
set_option maxRecDepth 100000 in
theorem zysp_0_4 : zfor (fun i => zysp_0 (10 * 4 + i)) 10 = true := by decide +kernel
set_option maxRecDepth 100000 in
theorem zysp_0_5 : zfor (fun i => zysp_0 (10 * 5 + i)) 10 = true := by decide +kernel
set_option maxRecDepth 100000 in
theorem zysp_0_6 : zfor (fun i => zysp_0 (10 * 6 + i)) 10 = true := by decide +kernel
set_option maxRecDepth 100000 in
theorem zysp_0_7 : zfor (fun i => zysp_0 (10 * 7 + i)) 10 = true := by decide +kernel
set_option maxRecDepth 100000 in
theorem zysp_0_8 : zfor (fun i => zysp_0 (10 * 8 + i)) 1 = true := by decide +kernel
