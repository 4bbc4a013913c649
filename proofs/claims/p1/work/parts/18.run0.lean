noncomputable def zc0 : zK := ([(0, .inr (.inr (.inr (.inl true))))], [], (0, zrmk 255 (.inr (99, []))), 0, 0)
def zall : zI := (.negSucc 2147483647, .ofNat 2147483647)
/-- the law's walk from its 32nd byte on, over five ints: the first & 63 in jq, the others in bounds -/
noncomputable def zrun5 (c : zK) (jq b1 b2 b3 b4 : zI) : Bool := zrun zprog 100000 2048 84000 (kLaw (.ofNat 5, .ofNat 5) [(zall, some (0, .ofNat 0)), (b1, none), (b2, none), (b3, none), (b4, none)] jq) (fun _ _ => false) 32 c
noncomputable def zmany (jq : zI) (l1 l2 l3 l4 : List zI) (c : zK) : Bool := l1.all fun b1 => l2.all fun b2 => l3.all fun b3 => l4.all fun b4 => zrun5 c jq b1 b2 b3 b4
noncomputable def kLawC (f : zK → Bool) : zCode := zrset (kLaw (.ofNat 5, .ofNat 5) [] (.ofNat 0, .ofNat 63)) 32 (some (zo_cut f))
/-- from the law's beginning, all bounds behind one another -/
noncomputable def zlaw (f : zK → Bool) : Bool := zrun zprog 100000 2048 84000 (kLawC f) (fun _ _ => false) 0 zc0
set_option maxRecDepth 100000 in
theorem zrun_short : zrun zprog 100000 2048 84000 (kLaw (.ofNat 0, .ofNat 4) [] (0, 0)) (fun _ _ => false) 0 zc0 = true := by decide +kernel
set_option maxRecDepth 100000 in
theorem zrun_dflt : zlaw (zmany (.ofNat 50, .ofNat 63) [zall] [zall] [zall] [zall]) = true := by decide +kernel
set_option maxRecDepth 100000 in
theorem zrun_0 : zlaw (zmany (.ofNat 0, .ofNat 0) [(.negSucc 2147483647, .ofNat 2147483647)] [zall] [zall] [zall]) = true := by decide +kernel
set_option maxRecDepth 100000 in
theorem zrun_1 : zlaw (zmany (.ofNat 1, .ofNat 1) [(.negSucc 2147483647, .negSucc 0), (.ofNat 0, .ofNat 0), (.ofNat 1, .ofNat 2147483647)] [zall] [zall] [zall]) = true := by decide +kernel
set_option maxRecDepth 100000 in
theorem zrun_2 : zlaw (zmany (.ofNat 2, .ofNat 2) [zall] [zall] [zall] [zall]) = true := by decide +kernel
set_option maxRecDepth 100000 in
theorem zrun_3 : zlaw (zmany (.ofNat 3, .ofNat 3) [zall] [zall] [zall] [zall]) = true := by decide +kernel
set_option maxRecDepth 100000 in
theorem zrun_5 : zlaw (zmany (.ofNat 5, .ofNat 5) [(.negSucc 2147483647, .negSucc 0), (.ofNat 0, .ofNat 2147483647)] [(.negSucc 2147483647, .ofNat 2147483647)] [zall] [zall]) = true := by decide +kernel
set_option maxRecDepth 100000 in
theorem zrun_6 : zlaw (zmany (.ofNat 6, .ofNat 6) [(.negSucc 2147483647, .negSucc 0), (.ofNat 0, .ofNat 0), (.ofNat 1, .ofNat 1), (.ofNat 2, .ofNat 2147483647)] [(.negSucc 2147483647, .negSucc 0), (.ofNat 0, .ofNat 0), (.ofNat 1, .ofNat 1), (.ofNat 2, .ofNat 2), (.ofNat 3, .ofNat 3), (.ofNat 4, .ofNat 4), (.ofNat 5, .ofNat 5), (.ofNat 6, .ofNat 6), (.ofNat 7, .ofNat 7), (.ofNat 8, .ofNat 8), (.ofNat 9, .ofNat 9), (.ofNat 10, .ofNat 2147483647)] [zall] [zall]) = true := by decide +kernel
set_option maxRecDepth 100000 in
theorem zrun_7 : zlaw (zmany (.ofNat 7, .ofNat 7) [(.negSucc 2147483647, .negSucc 0), (.ofNat 0, .ofNat 0), (.ofNat 1, .ofNat 1), (.ofNat 2, .ofNat 2), (.ofNat 3, .ofNat 3), (.ofNat 4, .ofNat 2147483647)] [(.negSucc 2147483647, .negSucc 0), (.ofNat 0, .ofNat 8), (.ofNat 9, .ofNat 2147483647)] [(.negSucc 2147483647, .ofNat 2147483647)] [(.negSucc 2147483647, .ofNat 2147483647)]) = true := by decide +kernel
set_option maxRecDepth 100000 in
theorem zrun_8 : zlaw (zmany (.ofNat 8, .ofNat 8) [zall] [zall] [zall] [zall]) = true := by decide +kernel
set_option maxRecDepth 100000 in
theorem zrun_9 : zlaw (zmany (.ofNat 9, .ofNat 9) [(.negSucc 2147483647, .negSucc 0), (.ofNat 0, .ofNat 0), (.ofNat 1, .ofNat 1), (.ofNat 2, .ofNat 2), (.ofNat 3, .ofNat 3), (.ofNat 4, .ofNat 4), (.ofNat 5, .ofNat 5), (.ofNat 6, .ofNat 6), (.ofNat 7, .ofNat 7), (.ofNat 8, .ofNat 2147483647)] [(.negSucc 2147483647, .negSucc 1), (.negSucc 0, .negSucc 0), (.ofNat 0, .ofNat 2147483647)] [zall] [zall]) = true := by decide +kernel
set_option maxRecDepth 100000 in
theorem zrun_10 : zlaw (zmany (.ofNat 10, .ofNat 10) [(.negSucc 2147483647, .negSucc 0), (.ofNat 0, .ofNat 2147483647)] [zall] [zall] [zall]) = true := by decide +kernel
set_option maxRecDepth 100000 in
theorem zrun_12 : zlaw (zmany (.ofNat 12, .ofNat 12) [zall] [zall] [zall] [zall]) = true := by decide +kernel
set_option maxRecDepth 100000 in
theorem zrun_13 : zlaw (zmany (.ofNat 13, .ofNat 13) [zall] [zall] [zall] [zall]) = true := by decide +kernel
set_option maxRecDepth 100000 in
theorem zrun_14 : zlaw (zmany (.ofNat 14, .ofNat 14) [zall] [zall] [zall] [zall]) = true := by decide +kernel
set_option maxRecDepth 100000 in
theorem zrun_15 : zlaw (zmany (.ofNat 15, .ofNat 15) [(.negSucc 2147483647, .ofNat 0), (.ofNat 1, .ofNat 60), (.ofNat 61, .ofNat 2147483647)] [zall] [zall] [zall]) = true := by decide +kernel
set_option maxRecDepth 100000 in
theorem zrun_18 : zlaw (zmany (.ofNat 18, .ofNat 18) [zall] [zall] [zall] [zall]) = true := by decide +kernel
