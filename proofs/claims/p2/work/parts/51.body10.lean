set_option maxRecDepth 100000 in
theorem zysp_1_7 : zfor (fun i => zysp_1 (10 * 7 + i)) 10 = true := by decide +kernel
