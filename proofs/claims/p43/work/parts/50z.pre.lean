set_option maxRecDepth 100000 in
theorem zypre : zpref zyI = true := by decide +kernel
