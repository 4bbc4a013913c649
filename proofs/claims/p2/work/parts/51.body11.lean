set_option maxRecDepth 100000 in
theorem zysp_1_8 : zfor (fun i => zysp_1 (10 * 8 + i)) 1 = true := by decide +kernel
