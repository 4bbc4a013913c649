set_option maxRecDepth 100000 in
theorem zrun_19 : zlaw (zmany (.ofNat 19, .ofNat 19) [zall] [zall] [zall] [zall]) = true := by decide +kernel
set_option maxRecDepth 100000 in
theorem zrun_20 : zlaw (zmany (.ofNat 20, .ofNat 20) [zall] [zall] [zall] [zall]) = true := by decide +kernel
