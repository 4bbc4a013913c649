set_option maxRecDepth 100000 in
theorem zrun_25 : zlaw (zmany (.ofNat 25, .ofNat 25) [(.negSucc 2147483647, .negSucc 0), (.ofNat 0, .ofNat 2147483647)] [zall] [zall] [zall]) = true := by decide +kernel
set_option maxRecDepth 100000 in
theorem zrun_26 : zlaw (zmany (.ofNat 26, .ofNat 26) [(.negSucc 2147483647, .negSucc 0), (.ofNat 0, .ofNat 2147483647)] [zall] [zall] [zall]) = true := by decide +kernel
