set_option maxRecDepth 100000 in
theorem zysp_1_5 : zfor (fun i => zysp_1 (10 * 5 + i)) 10 = true := by decide +kernel
