set_option maxRecDepth 100000 in
theorem zrun_35 : zlaw (zmany (.ofNat 35, .ofNat 35) [(.negSucc 2147483647, .negSucc 0), (.ofNat 0, .ofNat 2147483647)] [(.negSucc 2147483647, .ofNat 2147483647)] [(.negSucc 2147483647, .ofNat 2147483647)] [zall]) = true := by decide +kernel
set_option maxRecDepth 100000 in
theorem zrun_36 : zlaw (zmany (.ofNat 36, .ofNat 36) [(.negSucc 2147483647, .negSucc 0), (.ofNat 0, .ofNat 7), (.ofNat 8, .ofNat 2147483647)] [(.negSucc 2147483647, .negSucc 0), (.ofNat 0, .ofNat 2147483647)] [(.negSucc 2147483647, .ofNat 2147483647)] [zall]) = true := by decide +kernel
set_option maxRecDepth 100000 in
theorem zrun_37 : zlaw (zmany (.ofNat 37, .ofNat 37) [zall] [zall] [zall] [zall]) = true := by decide +kernel
set_option maxRecDepth 100000 in
theorem zrun_38 : zlaw (zmany (.ofNat 38, .ofNat 38) [zall] [zall] [zall] [zall]) = true := by decide +kernel
