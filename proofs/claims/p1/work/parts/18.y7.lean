set_option maxRecDepth 100000 in
theorem zrun_39 : zlaw (zmany (.ofNat 39, .ofNat 39) [(.negSucc 2147483647, .negSucc 0), (.ofNat 0, .ofNat 7), (.ofNat 8, .ofNat 2147483647)] [(.negSucc 2147483647, .negSucc 0), (.ofNat 0, .ofNat 2147483647)] [zall] [zall]) = true := by decide +kernel
set_option maxRecDepth 100000 in
theorem zrun_40 : zlaw (zmany (.ofNat 40, .ofNat 40) [zall] [zall] [zall] [zall]) = true := by decide +kernel
