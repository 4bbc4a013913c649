set_option maxRecDepth 100000 in
theorem zysp_1_6 : zfor (fun i => zysp_1 (10 * 6 + i)) 10 = true := by decide +kernel
