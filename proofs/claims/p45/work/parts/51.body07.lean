set_option maxRecDepth 100000 in
theorem zyg_43_6 : zall (fun b2 => zbodyG zyds zyJs zyI (.ofNat 43, .ofNat 43) (.ofNat 5, .ofNat 5) b2) (zyB2 (.ofNat 43, .ofNat 43)) = true := by decide +kernel
