set_option maxRecDepth 100000 in
theorem zrun_42 : zlaw (zmany (.ofNat 42, .ofNat 42) [(.negSucc 2147483647, .negSucc 0), (.ofNat 0, .ofNat 10), (.ofNat 11, .ofNat 2147483647)] [zall] [zall] [zall]) = true := by decide +kernel
set_option maxRecDepth 100000 in
theorem zrun_44 : zlaw (zmany (.ofNat 44, .ofNat 44) [zall] [zall] [zall] [zall]) = true := by decide +kernel
set_option maxRecDepth 100000 in
theorem zrun_46 : zlaw (zmany (.ofNat 46, .ofNat 46) [(.negSucc 2147483647, .negSucc 0), (.ofNat 0, .ofNat 0), (.ofNat 1, .ofNat 1), (.ofNat 2, .ofNat 2147483647)] [zall] [zall] [zall]) = true := by decide +kernel
set_option maxRecDepth 100000 in
theorem zrun_47 : zlaw (zmany (.ofNat 47, .ofNat 47) [(.negSucc 2147483647, .negSucc 0), (.ofNat 0, .ofNat 0), (.ofNat 1, .ofNat 1), (.ofNat 2, .ofNat 2147483647)] [zall] [zall] [zall]) = true := by decide +kernel
set_option maxRecDepth 100000 in
theorem zrun_48 : zlaw (zmany (.ofNat 48, .ofNat 48) [(.negSucc 2147483647, .negSucc 0), (.ofNat 0, .ofNat 0), (.ofNat 1, .ofNat 1), (.ofNat 2, .ofNat 2), (.ofNat 3, .ofNat 3), (.ofNat 4, .ofNat 4), (.ofNat 5, .ofNat 5), (.ofNat 6, .ofNat 6), (.ofNat 7, .ofNat 7), (.ofNat 8, .ofNat 8), (.ofNat 9, .ofNat 9), (.ofNat 10, .ofNat 10), (.ofNat 11, .ofNat 11), (.ofNat 12, .ofNat 12), (.ofNat 13, .ofNat 13), (.ofNat 14, .ofNat 14), (.ofNat 15, .ofNat 15), (.ofNat 16, .ofNat 16), (.ofNat 17, .ofNat 17), (.ofNat 18, .ofNat 18), (.ofNat 19, .ofNat 19), (.ofNat 20, .ofNat 20), (.ofNat 21, .ofNat 21), (.ofNat 22, .ofNat 22), (.ofNat 23, .ofNat 23), (.ofNat 24, .ofNat 24), (.ofNat 25, .ofNat 25), (.ofNat 26, .ofNat 26), (.ofNat 27, .ofNat 27), (.ofNat 28, .ofNat 2147483647)] [zall] [zall] [zall]) = true := by decide +kernel
