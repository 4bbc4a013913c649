set_option maxRecDepth 100000 in
theorem zrun_28 : zlaw (zmany (.ofNat 28, .ofNat 28) [zall] [zall] [zall] [zall]) = true := by decide +kernel
set_option maxRecDepth 100000 in
theorem zrun_29 : zlaw (zmany (.ofNat 29, .ofNat 29) [(.negSucc 2147483647, .negSucc 0), (.ofNat 0, .ofNat 7), (.ofNat 8, .ofNat 2147483647)] [zall] [zall] [zall]) = true := by decide +kernel
set_option maxRecDepth 100000 in
theorem zrun_30 : zlaw (zmany (.ofNat 30, .ofNat 30) [(.negSucc 2147483647, .negSucc 0), (.ofNat 0, .ofNat 999), (.ofNat 1000, .ofNat 2147483647)] [zall] [zall] [zall]) = true := by decide +kernel
set_option maxRecDepth 100000 in
theorem zrun_31 : zlaw (zmany (.ofNat 31, .ofNat 31) [(.negSucc 2147483647, .negSucc 0), (.ofNat 0, .ofNat 2147483647)] [(.negSucc 2147483647, .ofNat 2147483647)] [zall] [zall]) = true := by decide +kernel
set_option maxRecDepth 100000 in
theorem zrun_32 : zlaw (zmany (.ofNat 32, .ofNat 32) [zall] [zall] [zall] [zall]) = true := by decide +kernel
set_option maxRecDepth 100000 in
theorem zrun_33 : zlaw (zmany (.ofNat 33, .ofNat 33) [zall] [zall] [zall] [zall]) = true := by decide +kernel
set_option maxRecDepth 100000 in
theorem zrun_34 : zlaw (zmany (.ofNat 34, .ofNat 34) [zall] [zall] [zall] [zall]) = true := by decide +kernel
