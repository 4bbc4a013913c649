noncomputable def zc0 : zK := ([(0, .inr (.inr (.inr (.inl true))))], [], (0, zrmk 255 (.inr (99, []))), 0, 0)
set_option maxRecDepth 100000 in
theorem zrun_short : zrun zprog 100000 2048 84000 (kLaw (.ofNat 0, .ofNat 4) [] (fun _ => false)) (fun _ _ => false) 0 zc0 = true := by decide +kernel
