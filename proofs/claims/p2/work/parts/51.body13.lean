noncomputable def zysp_3 (i : Nat) : Bool := zall (fun b1 => zall (fun b2 => zbodyS zyds zyJs zyP zyI (zyX i) (.ofNat 3, .ofNat 3) b1 b2) (zyB2 (.ofNat 3, .ofNat 3))) (zyB1 (.ofNat 3, .ofNat 3))
set_option maxRecDepth 100000 in
theorem zysp_3_0 : zfor (fun i => zysp_3 (10 * 0 + i)) 10 = true := by decide +kernel
set_option maxRecDepth 100000 in
theorem zysp_3_1 : zfor (fun i => zysp_3 (10 * 1 + i)) 10 = true := by decide +kernel
set_option maxRecDepth 100000 in
theorem zysp_3_2 : zfor (fun i => zysp_3 (10 * 2 + i)) 10 = true := by decide +kernel
set_option maxRecDepth 100000 in
theorem zysp_3_3 : zfor (fun i => zysp_3 (10 * 3 + i)) 10 = true := by decide +kernel
set_option maxRecDepth 100000 in
theorem zysp_3_4 : zfor (fun i => zysp_3 (10 * 4 + i)) 10 = true := by decide +kernel
set_option maxRecDepth 100000 in
theorem zysp_3_5 : zfor (fun i => zysp_3 (10 * 5 + i)) 10 = true := by decide +kernel
set_option maxRecDepth 100000 in
theorem zysp_3_6 : zfor (fun i => zysp_3 (10 * 6 + i)) 10 = true := by decide +kernel
set_option maxRecDepth 100000 in
theorem zysp_3_7 : zfor (fun i => zysp_3 (10 * 7 + i)) 10 = true := by decide +kernel
set_option maxRecDepth 100000 in
theorem zysp_3_8 : zfor (fun i => zysp_3 (10 * 8 + i)) 1 = true := by decide +kernel
