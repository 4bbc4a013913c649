set_option maxRecDepth 100000 in
theorem zrun_21 : zlaw (zmany (.ofNat 21, .ofNat 21) [zall] [zall] [zall] [zall]) = true := by decide +kernel
