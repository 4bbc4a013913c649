set_option maxRecDepth 100000 in
theorem zrun_22 : zlaw (zmany (.ofNat 22, .ofNat 22) [zall] [zall] [zall] [zall]) = true := by decide +kernel
set_option maxRecDepth 100000 in
theorem zrun_23 : zlaw (zmany (.ofNat 23, .ofNat 23) [(.negSucc 2147483647, .negSucc 0), (.ofNat 0, .ofNat 2147483647)] [zall] [zall] [zall]) = true := by decide +kernel
set_option maxRecDepth 100000 in
theorem zrun_24 : zlaw (zmany (.ofNat 24, .ofNat 24) [zall] [zall] [zall] [zall]) = true := by decide +kernel
