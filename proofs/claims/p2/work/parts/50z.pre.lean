set_option maxRecDepth 100000 in
theorem zypre : zpref zyJs zyI = true := by decide +kernel
