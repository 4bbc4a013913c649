set_option maxRecDepth 100000 in
theorem zysp_1_3 : zfor (fun i => zysp_1 (10 * 3 + i)) 10 = true := by decide +kernel
