noncomputable def zyc381 : zC := .inr (8, [zyv120, zyv15, zyv15, zyv15, zyv120, zyv120, zyv120, zyv120, zyv15, zyv120, zyv15, zyv15, zyv124, zyv17, zyv319, zyv35, zyv122, zyv120, zyv120, zyv120, zyv15, zyv36, zyv127, zyv120, zyv15, zyv120, zyv120, zyv15, zyv15, zyv120, zyv120, zyv120, zyv120, zyv120, zyv120, zyv120, zyv120, zyv120, zyv120, zyv15, zyv120, zyv120, zyv120, zyv120, zyv15, zyv15, zyv15, zyv15, zyv120, zyv120, zyv120])
noncomputable def zyr310 : List zC := [zyc248, zyc248, zyc248, zyc240, zyc10, zyc10, zyc10, zyc12, zyc241, zyc8, zyc8, zyc241, zyc8, zyc8, zyc381, zyc250]
noncomputable def zyh423 : zH := (126, [zyr178, zyr179, zyr180, zyr181, zyr182, zyr310, zyr184, zyr185], 0)
noncomputable def zyh424 : zH := (126, [zyr178, zyr179, zyr180, zyr181, zyr182, zyr310, zyr184, zyr185], zym9)
noncomputable def zyc382 : zC := .inr (8, [zyv120, zyv15, zyv15, zyv15, zyv120, zyv120, zyv120, zyv120, zyv15, zyv120, zyv15, zyv15, zyv124, zyv17, zyv319, zyv322, zyv166, zyv120, zyv120, zyv120, zyv15, zyv36, zyv127, zyv120, zyv15, zyv120, zyv120, zyv15, zyv15, zyv120, zyv120, zyv120, zyv120, zyv120, zyv120, zyv120, zyv120, zyv120, zyv120, zyv15, zyv120, zyv120, zyv120, zyv120, zyv15, zyv15, zyv15, zyv15, zyv120, zyv120, zyv120])
noncomputable def zyr311 : List zC := [zyc248, zyc248, zyc248, zyc240, zyc10, zyc10, zyc10, zyc12, zyc241, zyc8, zyc8, zyc241, zyc8, zyc8, zyc382, zyc250]
noncomputable def zyh425 : zH := (126, [zyr178, zyr179, zyr180, zyr181, zyr182, zyr311, zyr184, zyr185], zym9)
noncomputable def zyc383 : zC := .inr (8, [zyv120, zyv15, zyv15, zyv15, zyv120, zyv120, zyv120, zyv120, zyv15, zyv120, zyv15, zyv15, zyv124, zyv17, zyv319, zyv322, zyv122, zyv120, zyv120, zyv120, zyv15, zyv36, zyv127, zyv120, zyv15, zyv120, zyv120, zyv15, zyv15, zyv120, zyv120, zyv120, zyv120, zyv120, zyv120, zyv120, zyv120, zyv120, zyv120, zyv15, zyv120, zyv120, zyv120, zyv120, zyv15, zyv15, zyv15, zyv15, zyv120, zyv120, zyv120])
noncomputable def zyr312 : List zC := [zyc248, zyc248, zyc248, zyc240, zyc10, zyc10, zyc10, zyc12, zyc241, zyc8, zyc8, zyc241, zyc8, zyc8, zyc383, zyc250]
noncomputable def zyh426 : zH := (126, [zyr178, zyr179, zyr180, zyr181, zyr182, zyr312, zyr184, zyr185], 0)
noncomputable def zyh427 : zH := (126, [zyr178, zyr179, zyr180, zyr181, zyr182, zyr312, zyr184, zyr185], zym9)
noncomputable def zyc384 : zC := .inr (8, [zyv120, zyv15, zyv15, zyv15, zyv120, zyv120, zyv120, zyv120, zyv15, zyv120, zyv15, zyv15, zyv124, zyv17, zyv319, zyv324, zyv166, zyv120, zyv120, zyv120, zyv15, zyv36, zyv127, zyv120, zyv15, zyv120, zyv120, zyv15, zyv15, zyv120, zyv120, zyv120, zyv120, zyv120, zyv120, zyv120, zyv120, zyv120, zyv120, zyv15, zyv120, zyv120, zyv120, zyv120, zyv15, zyv15, zyv15, zyv15, zyv120, zyv120, zyv120])
noncomputable def zyr313 : List zC := [zyc248, zyc248, zyc248, zyc240, zyc10, zyc10, zyc10, zyc12, zyc241, zyc8, zyc8, zyc241, zyc8, zyc8, zyc384, zyc250]
noncomputable def zyh428 : zH := (126, [zyr178, zyr179, zyr180, zyr181, zyr182, zyr313, zyr184, zyr185], zym9)
noncomputable def zyc385 : zC := .inr (8, [zyv120, zyv15, zyv15, zyv15, zyv120, zyv120, zyv120, zyv120, zyv15, zyv120, zyv15, zyv15, zyv124, zyv17, zyv319, zyv324, zyv122, zyv120, zyv120, zyv120, zyv15, zyv36, zyv127, zyv120, zyv15, zyv120, zyv120, zyv15, zyv15, zyv120, zyv120, zyv120, zyv120, zyv120, zyv120, zyv120, zyv120, zyv120, zyv120, zyv15, zyv120, zyv120, zyv120, zyv120, zyv15, zyv15, zyv15, zyv15, zyv120, zyv120, zyv120])
noncomputable def zyr314 : List zC := [zyc248, zyc248, zyc248, zyc240, zyc10, zyc10, zyc10, zyc12, zyc241, zyc8, zyc8, zyc241, zyc8, zyc8, zyc385, zyc250]
noncomputable def zyh429 : zH := (126, [zyr178, zyr179, zyr180, zyr181, zyr182, zyr314, zyr184, zyr185], 0)
noncomputable def zyh430 : zH := (126, [zyr178, zyr179, zyr180, zyr181, zyr182, zyr314, zyr184, zyr185], zym9)
noncomputable def zyc386 : zC := .inr (8, [zyv120, zyv15, zyv15, zyv15, zyv120, zyv120, zyv120, zyv120, zyv15, zyv120, zyv15, zyv15, zyv124, zyv17, zyv319, zyv325, zyv166, zyv120, zyv120, zyv120, zyv15, zyv36, zyv127, zyv120, zyv15, zyv120, zyv120, zyv15, zyv15, zyv120, zyv120, zyv120, zyv120, zyv120, zyv120, zyv120, zyv120, zyv120, zyv120, zyv15, zyv120, zyv120, zyv120, zyv120, zyv15, zyv15, zyv15, zyv15, zyv120, zyv120, zyv120])
noncomputable def zyr315 : List zC := [zyc248, zyc248, zyc248, zyc240, zyc10, zyc10, zyc10, zyc12, zyc241, zyc8, zyc8, zyc241, zyc8, zyc8, zyc386, zyc250]
noncomputable def zyh431 : zH := (126, [zyr178, zyr179, zyr180, zyr181, zyr182, zyr315, zyr184, zyr185], zym9)
noncomputable def zyc387 : zC := .inr (8, [zyv120, zyv15, zyv15, zyv15, zyv120, zyv120, zyv120, zyv120, zyv15, zyv120, zyv15, zyv15, zyv124, zyv17, zyv319, zyv325, zyv122, zyv120, zyv120, zyv120, zyv15, zyv36, zyv127, zyv120, zyv15, zyv120, zyv120, zyv15, zyv15, zyv120, zyv120, zyv120, zyv120, zyv120, zyv120, zyv120, zyv120, zyv120, zyv120, zyv15, zyv120, zyv120, zyv120, zyv120, zyv15, zyv15, zyv15, zyv15, zyv120, zyv120, zyv120])
noncomputable def zyr316 : List zC := [zyc248, zyc248, zyc248, zyc240, zyc10, zyc10, zyc10, zyc12, zyc241, zyc8, zyc8, zyc241, zyc8, zyc8, zyc387, zyc250]
noncomputable def zyh432 : zH := (126, [zyr178, zyr179, zyr180, zyr181, zyr182, zyr316, zyr184, zyr185], 0)
noncomputable def zyh433 : zH := (126, [zyr178, zyr179, zyr180, zyr181, zyr182, zyr316, zyr184, zyr185], zym9)
noncomputable def zyc388 : zC := .inr (8, [zyv120, zyv15, zyv15, zyv15, zyv120, zyv120, zyv120, zyv120, zyv15, zyv120, zyv15, zyv15, zyv124, zyv17, zyv319, zyv326, zyv166, zyv120, zyv120, zyv120, zyv15, zyv36, zyv127, zyv120, zyv15, zyv120, zyv120, zyv15, zyv15, zyv120, zyv120, zyv120, zyv120, zyv120, zyv120, zyv120, zyv120, zyv120, zyv120, zyv15, zyv120, zyv120, zyv120, zyv120, zyv15, zyv15, zyv15, zyv15, zyv120, zyv120, zyv120])
noncomputable def zyr317 : List zC := [zyc248, zyc248, zyc248, zyc240, zyc10, zyc10, zyc10, zyc12, zyc241, zyc8, zyc8, zyc241, zyc8, zyc8, zyc388, zyc250]
noncomputable def zyh434 : zH := (126, [zyr178, zyr179, zyr180, zyr181, zyr182, zyr317, zyr184, zyr185], zym9)
noncomputable def zyc389 : zC := .inr (8, [zyv120, zyv15, zyv15, zyv15, zyv120, zyv120, zyv120, zyv120, zyv15, zyv120, zyv15, zyv15, zyv124, zyv17, zyv319, zyv326, zyv122, zyv120, zyv120, zyv120, zyv15, zyv36, zyv127, zyv120, zyv15, zyv120, zyv120, zyv15, zyv15, zyv120, zyv120, zyv120, zyv120, zyv120, zyv120, zyv120, zyv120, zyv120, zyv120, zyv15, zyv120, zyv120, zyv120, zyv120, zyv15, zyv15, zyv15, zyv15, zyv120, zyv120, zyv120])
noncomputable def zyr318 : List zC := [zyc248, zyc248, zyc248, zyc240, zyc10, zyc10, zyc10, zyc12, zyc241, zyc8, zyc8, zyc241, zyc8, zyc8, zyc389, zyc250]
noncomputable def zyh435 : zH := (126, [zyr178, zyr179, zyr180, zyr181, zyr182, zyr318, zyr184, zyr185], 0)
noncomputable def zyh436 : zH := (126, [zyr178, zyr179, zyr180, zyr181, zyr182, zyr318, zyr184, zyr185], zym9)
noncomputable def zyc390 : zC := .inr (8, [zyv120, zyv15, zyv15, zyv15, zyv120, zyv120, zyv120, zyv120, zyv15, zyv120, zyv15, zyv15, zyv124, zyv17, zyv319, zyv327, zyv166, zyv120, zyv120, zyv120, zyv15, zyv36, zyv127, zyv120, zyv15, zyv120, zyv120, zyv15, zyv15, zyv120, zyv120, zyv120, zyv120, zyv120, zyv120, zyv120, zyv120, zyv120, zyv120, zyv15, zyv120, zyv120, zyv120, zyv120, zyv15, zyv15, zyv15, zyv15, zyv120, zyv120, zyv120])
noncomputable def zyr319 : List zC := [zyc248, zyc248, zyc248, zyc240, zyc10, zyc10, zyc10, zyc12, zyc241, zyc8, zyc8, zyc241, zyc8, zyc8, zyc390, zyc250]
noncomputable def zyh437 : zH := (126, [zyr178, zyr179, zyr180, zyr181, zyr182, zyr319, zyr184, zyr185], zym9)
noncomputable def zyc391 : zC := .inr (8, [zyv120, zyv15, zyv15, zyv15, zyv120, zyv120, zyv120, zyv120, zyv15, zyv120, zyv15, zyv15, zyv124, zyv17, zyv319, zyv327, zyv122, zyv120, zyv120, zyv120, zyv15, zyv36, zyv127, zyv120, zyv15, zyv120, zyv120, zyv15, zyv15, zyv120, zyv120, zyv120, zyv120, zyv120, zyv120, zyv120, zyv120, zyv120, zyv120, zyv15, zyv120, zyv120, zyv120, zyv120, zyv15, zyv15, zyv15, zyv15, zyv120, zyv120, zyv120])
noncomputable def zyr320 : List zC := [zyc248, zyc248, zyc248, zyc240, zyc10, zyc10, zyc10, zyc12, zyc241, zyc8, zyc8, zyc241, zyc8, zyc8, zyc391, zyc250]
noncomputable def zyh438 : zH := (126, [zyr178, zyr179, zyr180, zyr181, zyr182, zyr320, zyr184, zyr185], 0)
noncomputable def zyh439 : zH := (126, [zyr178, zyr179, zyr180, zyr181, zyr182, zyr320, zyr184, zyr185], zym9)
noncomputable def zyc392 : zC := .inr (8, [zyv120, zyv15, zyv15, zyv15, zyv120, zyv120, zyv120, zyv120, zyv15, zyv120, zyv15, zyv15, zyv124, zyv17, zyv319, zyv328, zyv166, zyv120, zyv120, zyv120, zyv15, zyv36, zyv127, zyv120, zyv15, zyv120, zyv120, zyv15, zyv15, zyv120, zyv120, zyv120, zyv120, zyv120, zyv120, zyv120, zyv120, zyv120, zyv120, zyv15, zyv120, zyv120, zyv120, zyv120, zyv15, zyv15, zyv15, zyv15, zyv120, zyv120, zyv120])
noncomputable def zyr321 : List zC := [zyc248, zyc248, zyc248, zyc240, zyc10, zyc10, zyc10, zyc12, zyc241, zyc8, zyc8, zyc241, zyc8, zyc8, zyc392, zyc250]
noncomputable def zyh440 : zH := (126, [zyr178, zyr179, zyr180, zyr181, zyr182, zyr321, zyr184, zyr185], zym9)
noncomputable def zyc393 : zC := .inr (8, [zyv120, zyv15, zyv15, zyv15, zyv120, zyv120, zyv120, zyv120, zyv15, zyv120, zyv15, zyv15, zyv124, zyv17, zyv319, zyv328, zyv122, zyv120, zyv120, zyv120, zyv15, zyv36, zyv127, zyv120, zyv15, zyv120, zyv120, zyv15, zyv15, zyv120, zyv120, zyv120, zyv120, zyv120, zyv120, zyv120, zyv120, zyv120, zyv120, zyv15, zyv120, zyv120, zyv120, zyv120, zyv15, zyv15, zyv15, zyv15, zyv120, zyv120, zyv120])
noncomputable def zyr322 : List zC := [zyc248, zyc248, zyc248, zyc240, zyc10, zyc10, zyc10, zyc12, zyc241, zyc8, zyc8, zyc241, zyc8, zyc8, zyc393, zyc250]
noncomputable def zyh441 : zH := (126, [zyr178, zyr179, zyr180, zyr181, zyr182, zyr322, zyr184, zyr185], 0)
noncomputable def zyh442 : zH := (126, [zyr178, zyr179, zyr180, zyr181, zyr182, zyr322, zyr184, zyr185], zym9)
noncomputable def zyc394 : zC := .inr (8, [zyv120, zyv15, zyv15, zyv15, zyv120, zyv120, zyv120, zyv120, zyv15, zyv120, zyv15, zyv15, zyv124, zyv17, zyv319, zyv329, zyv166, zyv120, zyv120, zyv120, zyv15, zyv36, zyv127, zyv120, zyv15, zyv120, zyv120, zyv15, zyv15, zyv120, zyv120, zyv120, zyv120, zyv120, zyv120, zyv120, zyv120, zyv120, zyv120, zyv15, zyv120, zyv120, zyv120, zyv120, zyv15, zyv15, zyv15, zyv15, zyv120, zyv120, zyv120])
noncomputable def zyr323 : List zC := [zyc248, zyc248, zyc248, zyc240, zyc10, zyc10, zyc10, zyc12, zyc241, zyc8, zyc8, zyc241, zyc8, zyc8, zyc394, zyc250]
noncomputable def zyh443 : zH := (126, [zyr178, zyr179, zyr180, zyr181, zyr182, zyr323, zyr184, zyr185], zym9)
noncomputable def zyc395 : zC := .inr (8, [zyv120, zyv15, zyv15, zyv15, zyv120, zyv120, zyv120, zyv120, zyv15, zyv120, zyv15, zyv15, zyv124, zyv17, zyv319, zyv329, zyv122, zyv120, zyv120, zyv120, zyv15, zyv36, zyv127, zyv120, zyv15, zyv120, zyv120, zyv15, zyv15, zyv120, zyv120, zyv120, zyv120, zyv120, zyv120, zyv120, zyv120, zyv120, zyv120, zyv15, zyv120, zyv120, zyv120, zyv120, zyv15, zyv15, zyv15, zyv15, zyv120, zyv120, zyv120])
noncomputable def zyr324 : List zC := [zyc248, zyc248, zyc248, zyc240, zyc10, zyc10, zyc10, zyc12, zyc241, zyc8, zyc8, zyc241, zyc8, zyc8, zyc395, zyc250]
noncomputable def zyh444 : zH := (126, [zyr178, zyr179, zyr180, zyr181, zyr182, zyr324, zyr184, zyr185], 0)
noncomputable def zyh445 : zH := (126, [zyr178, zyr179, zyr180, zyr181, zyr182, zyr324, zyr184, zyr185], zym9)
noncomputable def zyc396 : zC := .inr (8, [zyv120, zyv15, zyv15, zyv15, zyv120, zyv120, zyv120, zyv120, zyv15, zyv120, zyv15, zyv15, zyv124, zyv17, zyv319, zyv330, zyv166, zyv120, zyv120, zyv120, zyv15, zyv36, zyv127, zyv120, zyv15, zyv120, zyv120, zyv15, zyv15, zyv120, zyv120, zyv120, zyv120, zyv120, zyv120, zyv120, zyv120, zyv120, zyv120, zyv15, zyv120, zyv120, zyv120, zyv120, zyv15, zyv15, zyv15, zyv15, zyv120, zyv120, zyv120])
noncomputable def zyr325 : List zC := [zyc248, zyc248, zyc248, zyc240, zyc10, zyc10, zyc10, zyc12, zyc241, zyc8, zyc8, zyc241, zyc8, zyc8, zyc396, zyc250]
noncomputable def zyh446 : zH := (126, [zyr178, zyr179, zyr180, zyr181, zyr182, zyr325, zyr184, zyr185], zym9)
noncomputable def zyc397 : zC := .inr (8, [zyv120, zyv15, zyv15, zyv15, zyv120, zyv120, zyv120, zyv120, zyv15, zyv120, zyv15, zyv15, zyv124, zyv17, zyv319, zyv330, zyv122, zyv120, zyv120, zyv120, zyv15, zyv36, zyv127, zyv120, zyv15, zyv120, zyv120, zyv15, zyv15, zyv120, zyv120, zyv120, zyv120, zyv120, zyv120, zyv120, zyv120, zyv120, zyv120, zyv15, zyv120, zyv120, zyv120, zyv120, zyv15, zyv15, zyv15, zyv15, zyv120, zyv120, zyv120])
noncomputable def zyr326 : List zC := [zyc248, zyc248, zyc248, zyc240, zyc10, zyc10, zyc10, zyc12, zyc241, zyc8, zyc8, zyc241, zyc8, zyc8, zyc397, zyc250]
noncomputable def zyh447 : zH := (126, [zyr178, zyr179, zyr180, zyr181, zyr182, zyr326, zyr184, zyr185], 0)
noncomputable def zyh448 : zH := (126, [zyr178, zyr179, zyr180, zyr181, zyr182, zyr326, zyr184, zyr185], zym9)
noncomputable def zyc398 : zC := .inr (8, [zyv120, zyv15, zyv15, zyv15, zyv120, zyv120, zyv120, zyv120, zyv15, zyv120, zyv15, zyv15, zyv124, zyv17, zyv319, zyv331, zyv166, zyv120, zyv120, zyv120, zyv15, zyv36, zyv127, zyv120, zyv15, zyv120, zyv120, zyv15, zyv15, zyv120, zyv120, zyv120, zyv120, zyv120, zyv120, zyv120, zyv120, zyv120, zyv120, zyv15, zyv120, zyv120, zyv120, zyv120, zyv15, zyv15, zyv15, zyv15, zyv120, zyv120, zyv120])
noncomputable def zyr327 : List zC := [zyc248, zyc248, zyc248, zyc240, zyc10, zyc10, zyc10, zyc12, zyc241, zyc8, zyc8, zyc241, zyc8, zyc8, zyc398, zyc250]
noncomputable def zyh449 : zH := (126, [zyr178, zyr179, zyr180, zyr181, zyr182, zyr327, zyr184, zyr185], zym9)
noncomputable def zyc399 : zC := .inr (8, [zyv120, zyv15, zyv15, zyv15, zyv120, zyv120, zyv120, zyv120, zyv15, zyv120, zyv15, zyv15, zyv124, zyv17, zyv319, zyv331, zyv122, zyv120, zyv120, zyv120, zyv15, zyv36, zyv127, zyv120, zyv15, zyv120, zyv120, zyv15, zyv15, zyv120, zyv120, zyv120, zyv120, zyv120, zyv120, zyv120, zyv120, zyv120, zyv120, zyv15, zyv120, zyv120, zyv120, zyv120, zyv15, zyv15, zyv15, zyv15, zyv120, zyv120, zyv120])
noncomputable def zyr328 : List zC := [zyc248, zyc248, zyc248, zyc240, zyc10, zyc10, zyc10, zyc12, zyc241, zyc8, zyc8, zyc241, zyc8, zyc8, zyc399, zyc250]
noncomputable def zyh450 : zH := (126, [zyr178, zyr179, zyr180, zyr181, zyr182, zyr328, zyr184, zyr185], 0)
noncomputable def zyh451 : zH := (126, [zyr178, zyr179, zyr180, zyr181, zyr182, zyr328, zyr184, zyr185], zym9)
noncomputable def zyc400 : zC := .inr (8, [zyv120, zyv15, zyv15, zyv15, zyv120, zyv120, zyv120, zyv120, zyv15, zyv120, zyv15, zyv15, zyv124, zyv17, zyv319, zyv332, zyv166, zyv120, zyv120, zyv120, zyv15, zyv36, zyv127, zyv120, zyv15, zyv120, zyv120, zyv15, zyv15, zyv120, zyv120, zyv120, zyv120, zyv120, zyv120, zyv120, zyv120, zyv120, zyv120, zyv15, zyv120, zyv120, zyv120, zyv120, zyv15, zyv15, zyv15, zyv15, zyv120, zyv120, zyv120])
noncomputable def zyr329 : List zC := [zyc248, zyc248, zyc248, zyc240, zyc10, zyc10, zyc10, zyc12, zyc241, zyc8, zyc8, zyc241, zyc8, zyc8, zyc400, zyc250]
noncomputable def zyh452 : zH := (126, [zyr178, zyr179, zyr180, zyr181, zyr182, zyr329, zyr184, zyr185], zym9)
noncomputable def zyc401 : zC := .inr (8, [zyv120, zyv15, zyv15, zyv15, zyv120, zyv120, zyv120, zyv120, zyv15, zyv120, zyv15, zyv15, zyv124, zyv17, zyv319, zyv333, zyv122, zyv120, zyv120, zyv120, zyv15, zyv36, zyv127, zyv120, zyv15, zyv120, zyv120, zyv15, zyv15, zyv120, zyv120, zyv120, zyv120, zyv120, zyv120, zyv120, zyv120, zyv120, zyv120, zyv15, zyv120, zyv120, zyv120, zyv120, zyv15, zyv15, zyv15, zyv15, zyv120, zyv120, zyv120])
noncomputable def zyr330 : List zC := [zyc248, zyc248, zyc248, zyc240, zyc10, zyc10, zyc10, zyc12, zyc241, zyc8, zyc8, zyc241, zyc8, zyc8, zyc401, zyc250]
noncomputable def zyh453 : zH := (126, [zyr178, zyr179, zyr180, zyr181, zyr182, zyr330, zyr184, zyr185], 0)
noncomputable def zyh454 : zH := (126, [zyr178, zyr179, zyr180, zyr181, zyr182, zyr330, zyr184, zyr185], zym9)
noncomputable def zyc402 : zC := .inr (8, [zyv120, zyv15, zyv15, zyv15, zyv120, zyv120, zyv120, zyv120, zyv15, zyv120, zyv15, zyv15, zyv124, zyv17, zyv319, zyv334, zyv166, zyv120, zyv120, zyv120, zyv15, zyv36, zyv127, zyv120, zyv15, zyv120, zyv120, zyv15, zyv15, zyv120, zyv120, zyv120, zyv120, zyv120, zyv120, zyv120, zyv120, zyv120, zyv120, zyv15, zyv120, zyv120, zyv120, zyv120, zyv15, zyv15, zyv15, zyv15, zyv120, zyv120, zyv120])
noncomputable def zyr331 : List zC := [zyc248, zyc248, zyc248, zyc240, zyc10, zyc10, zyc10, zyc12, zyc241, zyc8, zyc8, zyc241, zyc8, zyc8, zyc402, zyc250]
noncomputable def zyh455 : zH := (126, [zyr178, zyr179, zyr180, zyr181, zyr182, zyr331, zyr184, zyr185], zym9)
noncomputable def zyc403 : zC := .inr (8, [zyv120, zyv15, zyv15, zyv15, zyv120, zyv120, zyv120, zyv120, zyv15, zyv120, zyv15, zyv15, zyv124, zyv17, zyv319, zyv334, zyv122, zyv120, zyv120, zyv120, zyv15, zyv36, zyv127, zyv120, zyv15, zyv120, zyv120, zyv15, zyv15, zyv120, zyv120, zyv120, zyv120, zyv120, zyv120, zyv120, zyv120, zyv120, zyv120, zyv15, zyv120, zyv120, zyv120, zyv120, zyv15, zyv15, zyv15, zyv15, zyv120, zyv120, zyv120])
noncomputable def zyr332 : List zC := [zyc248, zyc248, zyc248, zyc240, zyc10, zyc10, zyc10, zyc12, zyc241, zyc8, zyc8, zyc241, zyc8, zyc8, zyc403, zyc250]
noncomputable def zyh456 : zH := (126, [zyr178, zyr179, zyr180, zyr181, zyr182, zyr332, zyr184, zyr185], 0)
noncomputable def zyh457 : zH := (126, [zyr178, zyr179, zyr180, zyr181, zyr182, zyr332, zyr184, zyr185], zym9)
noncomputable def zyc404 : zC := .inr (8, [zyv120, zyv15, zyv15, zyv15, zyv120, zyv120, zyv120, zyv120, zyv15, zyv120, zyv15, zyv15, zyv124, zyv17, zyv319, zyv335, zyv166, zyv120, zyv120, zyv120, zyv15, zyv36, zyv127, zyv120, zyv15, zyv120, zyv120, zyv15, zyv15, zyv120, zyv120, zyv120, zyv120, zyv120, zyv120, zyv120, zyv120, zyv120, zyv120, zyv15, zyv120, zyv120, zyv120, zyv120, zyv15, zyv15, zyv15, zyv15, zyv120, zyv120, zyv120])
noncomputable def zyr333 : List zC := [zyc248, zyc248, zyc248, zyc240, zyc10, zyc10, zyc10, zyc12, zyc241, zyc8, zyc8, zyc241, zyc8, zyc8, zyc404, zyc250]
noncomputable def zyh458 : zH := (126, [zyr178, zyr179, zyr180, zyr181, zyr182, zyr333, zyr184, zyr185], zym9)
noncomputable def zyc405 : zC := .inr (8, [zyv120, zyv15, zyv15, zyv15, zyv120, zyv120, zyv120, zyv120, zyv15, zyv120, zyv15, zyv15, zyv124, zyv17, zyv319, zyv335, zyv122, zyv120, zyv120, zyv120, zyv15, zyv36, zyv127, zyv120, zyv15, zyv120, zyv120, zyv15, zyv15, zyv120, zyv120, zyv120, zyv120, zyv120, zyv120, zyv120, zyv120, zyv120, zyv120, zyv15, zyv120, zyv120, zyv120, zyv120, zyv15, zyv15, zyv15, zyv15, zyv120, zyv120, zyv120])
noncomputable def zyr334 : List zC := [zyc248, zyc248, zyc248, zyc240, zyc10, zyc10, zyc10, zyc12, zyc241, zyc8, zyc8, zyc241, zyc8, zyc8, zyc405, zyc250]
noncomputable def zyh459 : zH := (126, [zyr178, zyr179, zyr180, zyr181, zyr182, zyr334, zyr184, zyr185], 0)
noncomputable def zyh460 : zH := (126, [zyr178, zyr179, zyr180, zyr181, zyr182, zyr334, zyr184, zyr185], zym9)
noncomputable def zyc406 : zC := .inr (8, [zyv120, zyv15, zyv15, zyv15, zyv120, zyv120, zyv120, zyv120, zyv15, zyv120, zyv15, zyv15, zyv124, zyv17, zyv319, zyv336, zyv166, zyv120, zyv120, zyv120, zyv15, zyv36, zyv127, zyv120, zyv15, zyv120, zyv120, zyv15, zyv15, zyv120, zyv120, zyv120, zyv120, zyv120, zyv120, zyv120, zyv120, zyv120, zyv120, zyv15, zyv120, zyv120, zyv120, zyv120, zyv15, zyv15, zyv15, zyv15, zyv120, zyv120, zyv120])
noncomputable def zyr335 : List zC := [zyc248, zyc248, zyc248, zyc240, zyc10, zyc10, zyc10, zyc12, zyc241, zyc8, zyc8, zyc241, zyc8, zyc8, zyc406, zyc250]
noncomputable def zyh461 : zH := (126, [zyr178, zyr179, zyr180, zyr181, zyr182, zyr335, zyr184, zyr185], zym9)
noncomputable def zyc407 : zC := .inr (8, [zyv120, zyv15, zyv15, zyv15, zyv120, zyv120, zyv120, zyv120, zyv15, zyv120, zyv15, zyv15, zyv124, zyv17, zyv319, zyv336, zyv122, zyv120, zyv120, zyv120, zyv15, zyv36, zyv127, zyv120, zyv15, zyv120, zyv120, zyv15, zyv15, zyv120, zyv120, zyv120, zyv120, zyv120, zyv120, zyv120, zyv120, zyv120, zyv120, zyv15, zyv120, zyv120, zyv120, zyv120, zyv15, zyv15, zyv15, zyv15, zyv120, zyv120, zyv120])
noncomputable def zyr336 : List zC := [zyc248, zyc248, zyc248, zyc240, zyc10, zyc10, zyc10, zyc12, zyc241, zyc8, zyc8, zyc241, zyc8, zyc8, zyc407, zyc250]
noncomputable def zyh462 : zH := (126, [zyr178, zyr179, zyr180, zyr181, zyr182, zyr336, zyr184, zyr185], 0)
noncomputable def zyh463 : zH := (126, [zyr178, zyr179, zyr180, zyr181, zyr182, zyr336, zyr184, zyr185], zym9)
noncomputable def zyc408 : zC := .inr (8, [zyv120, zyv15, zyv15, zyv15, zyv120, zyv120, zyv120, zyv120, zyv15, zyv120, zyv15, zyv15, zyv124, zyv17, zyv319, zyv337, zyv166, zyv120, zyv120, zyv120, zyv15, zyv36, zyv127, zyv120, zyv15, zyv120, zyv120, zyv15, zyv15, zyv120, zyv120, zyv120, zyv120, zyv120, zyv120, zyv120, zyv120, zyv120, zyv120, zyv15, zyv120, zyv120, zyv120, zyv120, zyv15, zyv15, zyv15, zyv15, zyv120, zyv120, zyv120])
noncomputable def zyr337 : List zC := [zyc248, zyc248, zyc248, zyc240, zyc10, zyc10, zyc10, zyc12, zyc241, zyc8, zyc8, zyc241, zyc8, zyc8, zyc408, zyc250]
noncomputable def zyh464 : zH := (126, [zyr178, zyr179, zyr180, zyr181, zyr182, zyr337, zyr184, zyr185], zym9)
noncomputable def zyc409 : zC := .inr (8, [zyv120, zyv15, zyv15, zyv15, zyv120, zyv120, zyv120, zyv120, zyv15, zyv120, zyv15, zyv15, zyv124, zyv17, zyv319, zyv337, zyv122, zyv120, zyv120, zyv120, zyv15, zyv36, zyv127, zyv120, zyv15, zyv120, zyv120, zyv15, zyv15, zyv120, zyv120, zyv120, zyv120, zyv120, zyv120, zyv120, zyv120, zyv120, zyv120, zyv15, zyv120, zyv120, zyv120, zyv120, zyv15, zyv15, zyv15, zyv15, zyv120, zyv120, zyv120])
noncomputable def zyr338 : List zC := [zyc248, zyc248, zyc248, zyc240, zyc10, zyc10, zyc10, zyc12, zyc241, zyc8, zyc8, zyc241, zyc8, zyc8, zyc409, zyc250]
noncomputable def zyh465 : zH := (126, [zyr178, zyr179, zyr180, zyr181, zyr182, zyr338, zyr184, zyr185], 0)
noncomputable def zyh466 : zH := (126, [zyr178, zyr179, zyr180, zyr181, zyr182, zyr338, zyr184, zyr185], zym9)
noncomputable def zyc410 : zC := .inr (8, [zyv120, zyv15, zyv15, zyv15, zyv120, zyv120, zyv120, zyv120, zyv15, zyv120, zyv15, zyv15, zyv124, zyv17, zyv319, zyv338, zyv166, zyv120, zyv120, zyv120, zyv15, zyv36, zyv127, zyv120, zyv15, zyv120, zyv120, zyv15, zyv15, zyv120, zyv120, zyv120, zyv120, zyv120, zyv120, zyv120, zyv120, zyv120, zyv120, zyv15, zyv120, zyv120, zyv120, zyv120, zyv15, zyv15, zyv15, zyv15, zyv120, zyv120, zyv120])
noncomputable def zyr339 : List zC := [zyc248, zyc248, zyc248, zyc240, zyc10, zyc10, zyc10, zyc12, zyc241, zyc8, zyc8, zyc241, zyc8, zyc8, zyc410, zyc250]
noncomputable def zyh467 : zH := (126, [zyr178, zyr179, zyr180, zyr181, zyr182, zyr339, zyr184, zyr185], zym9)
noncomputable def zyc411 : zC := .inr (8, [zyv120, zyv15, zyv15, zyv15, zyv120, zyv120, zyv120, zyv120, zyv15, zyv120, zyv15, zyv15, zyv124, zyv17, zyv319, zyv338, zyv122, zyv120, zyv120, zyv120, zyv15, zyv36, zyv127, zyv120, zyv15, zyv120, zyv120, zyv15, zyv15, zyv120, zyv120, zyv120, zyv120, zyv120, zyv120, zyv120, zyv120, zyv120, zyv120, zyv15, zyv120, zyv120, zyv120, zyv120, zyv15, zyv15, zyv15, zyv15, zyv120, zyv120, zyv120])
noncomputable def zyr340 : List zC := [zyc248, zyc248, zyc248, zyc240, zyc10, zyc10, zyc10, zyc12, zyc241, zyc8, zyc8, zyc241, zyc8, zyc8, zyc411, zyc250]
noncomputable def zyh468 : zH := (126, [zyr178, zyr179, zyr180, zyr181, zyr182, zyr340, zyr184, zyr185], 0)
noncomputable def zyh469 : zH := (126, [zyr178, zyr179, zyr180, zyr181, zyr182, zyr340, zyr184, zyr185], zym9)
noncomputable def zyc412 : zC := .inr (8, [zyv120, zyv15, zyv15, zyv15, zyv120, zyv120, zyv120, zyv120, zyv15, zyv120, zyv15, zyv15, zyv124, zyv17, zyv319, zyv339, zyv166, zyv120, zyv120, zyv120, zyv15, zyv36, zyv127, zyv120, zyv15, zyv120, zyv120, zyv15, zyv15, zyv120, zyv120, zyv120, zyv120, zyv120, zyv120, zyv120, zyv120, zyv120, zyv120, zyv15, zyv120, zyv120, zyv120, zyv120, zyv15, zyv15, zyv15, zyv15, zyv120, zyv120, zyv120])
noncomputable def zyr341 : List zC := [zyc248, zyc248, zyc248, zyc240, zyc10, zyc10, zyc10, zyc12, zyc241, zyc8, zyc8, zyc241, zyc8, zyc8, zyc412, zyc250]
noncomputable def zyh470 : zH := (126, [zyr178, zyr179, zyr180, zyr181, zyr182, zyr341, zyr184, zyr185], zym9)
noncomputable def zyc413 : zC := .inr (8, [zyv120, zyv15, zyv15, zyv15, zyv120, zyv120, zyv120, zyv120, zyv15, zyv120, zyv15, zyv15, zyv124, zyv17, zyv319, zyv339, zyv122, zyv120, zyv120, zyv120, zyv15, zyv36, zyv127, zyv120, zyv15, zyv120, zyv120, zyv15, zyv15, zyv120, zyv120, zyv120, zyv120, zyv120, zyv120, zyv120, zyv120, zyv120, zyv120, zyv15, zyv120, zyv120, zyv120, zyv120, zyv15, zyv15, zyv15, zyv15, zyv120, zyv120, zyv120])
noncomputable def zyr342 : List zC := [zyc248, zyc248, zyc248, zyc240, zyc10, zyc10, zyc10, zyc12, zyc241, zyc8, zyc8, zyc241, zyc8, zyc8, zyc413, zyc250]
noncomputable def zyh471 : zH := (126, [zyr178, zyr179, zyr180, zyr181, zyr182, zyr342, zyr184, zyr185], 0)
noncomputable def zyh472 : zH := (126, [zyr178, zyr179, zyr180, zyr181, zyr182, zyr342, zyr184, zyr185], zym9)
noncomputable def zyc414 : zC := .inr (8, [zyv120, zyv15, zyv15, zyv15, zyv120, zyv120, zyv120, zyv120, zyv15, zyv120, zyv15, zyv15, zyv124, zyv17, zyv319, zyv340, zyv166, zyv120, zyv120, zyv120, zyv15, zyv36, zyv127, zyv120, zyv15, zyv120, zyv120, zyv15, zyv15, zyv120, zyv120, zyv120, zyv120, zyv120, zyv120, zyv120, zyv120, zyv120, zyv120, zyv15, zyv120, zyv120, zyv120, zyv120, zyv15, zyv15, zyv15, zyv15, zyv120, zyv120, zyv120])
noncomputable def zyr343 : List zC := [zyc248, zyc248, zyc248, zyc240, zyc10, zyc10, zyc10, zyc12, zyc241, zyc8, zyc8, zyc241, zyc8, zyc8, zyc414, zyc250]
noncomputable def zyh473 : zH := (126, [zyr178, zyr179, zyr180, zyr181, zyr182, zyr343, zyr184, zyr185], zym9)
noncomputable def zyc415 : zC := .inr (8, [zyv120, zyv15, zyv15, zyv15, zyv120, zyv120, zyv120, zyv120, zyv15, zyv120, zyv15, zyv15, zyv124, zyv17, zyv319, zyv340, zyv122, zyv120, zyv120, zyv120, zyv15, zyv36, zyv127, zyv120, zyv15, zyv120, zyv120, zyv15, zyv15, zyv120, zyv120, zyv120, zyv120, zyv120, zyv120, zyv120, zyv120, zyv120, zyv120, zyv15, zyv120, zyv120, zyv120, zyv120, zyv15, zyv15, zyv15, zyv15, zyv120, zyv120, zyv120])
noncomputable def zyr344 : List zC := [zyc248, zyc248, zyc248, zyc240, zyc10, zyc10, zyc10, zyc12, zyc241, zyc8, zyc8, zyc241, zyc8, zyc8, zyc415, zyc250]
noncomputable def zyh474 : zH := (126, [zyr178, zyr179, zyr180, zyr181, zyr182, zyr344, zyr184, zyr185], 0)
noncomputable def zyh475 : zH := (126, [zyr178, zyr179, zyr180, zyr181, zyr182, zyr344, zyr184, zyr185], zym9)
noncomputable def zyc416 : zC := .inr (8, [zyv120, zyv15, zyv15, zyv15, zyv120, zyv120, zyv120, zyv120, zyv15, zyv120, zyv15, zyv15, zyv124, zyv17, zyv319, zyv341, zyv166, zyv120, zyv120, zyv120, zyv15, zyv36, zyv127, zyv120, zyv15, zyv120, zyv120, zyv15, zyv15, zyv120, zyv120, zyv120, zyv120, zyv120, zyv120, zyv120, zyv120, zyv120, zyv120, zyv15, zyv120, zyv120, zyv120, zyv120, zyv15, zyv15, zyv15, zyv15, zyv120, zyv120, zyv120])
noncomputable def zyr345 : List zC := [zyc248, zyc248, zyc248, zyc240, zyc10, zyc10, zyc10, zyc12, zyc241, zyc8, zyc8, zyc241, zyc8, zyc8, zyc416, zyc250]
noncomputable def zyh476 : zH := (126, [zyr178, zyr179, zyr180, zyr181, zyr182, zyr345, zyr184, zyr185], zym9)
noncomputable def zyc417 : zC := .inr (8, [zyv120, zyv15, zyv15, zyv15, zyv120, zyv120, zyv120, zyv120, zyv15, zyv120, zyv15, zyv15, zyv124, zyv17, zyv319, zyv341, zyv122, zyv120, zyv120, zyv120, zyv15, zyv36, zyv127, zyv120, zyv15, zyv120, zyv120, zyv15, zyv15, zyv120, zyv120, zyv120, zyv120, zyv120, zyv120, zyv120, zyv120, zyv120, zyv120, zyv15, zyv120, zyv120, zyv120, zyv120, zyv15, zyv15, zyv15, zyv15, zyv120, zyv120, zyv120])
noncomputable def zyr346 : List zC := [zyc248, zyc248, zyc248, zyc240, zyc10, zyc10, zyc10, zyc12, zyc241, zyc8, zyc8, zyc241, zyc8, zyc8, zyc417, zyc250]
noncomputable def zyh477 : zH := (126, [zyr178, zyr179, zyr180, zyr181, zyr182, zyr346, zyr184, zyr185], 0)
noncomputable def zyh478 : zH := (126, [zyr178, zyr179, zyr180, zyr181, zyr182, zyr346, zyr184, zyr185], zym9)
noncomputable def zyc418 : zC := .inr (8, [zyv120, zyv15, zyv15, zyv15, zyv120, zyv120, zyv120, zyv120, zyv15, zyv120, zyv15, zyv15, zyv124, zyv17, zyv319, zyv342, zyv166, zyv120, zyv120, zyv120, zyv15, zyv36, zyv127, zyv120, zyv15, zyv120, zyv120, zyv15, zyv15, zyv120, zyv120, zyv120, zyv120, zyv120, zyv120, zyv120, zyv120, zyv120, zyv120, zyv15, zyv120, zyv120, zyv120, zyv120, zyv15, zyv15, zyv15, zyv15, zyv120, zyv120, zyv120])
noncomputable def zyr347 : List zC := [zyc248, zyc248, zyc248, zyc240, zyc10, zyc10, zyc10, zyc12, zyc241, zyc8, zyc8, zyc241, zyc8, zyc8, zyc418, zyc250]
noncomputable def zyh479 : zH := (126, [zyr178, zyr179, zyr180, zyr181, zyr182, zyr347, zyr184, zyr185], zym9)
noncomputable def zyc419 : zC := .inr (8, [zyv120, zyv15, zyv15, zyv15, zyv120, zyv120, zyv120, zyv120, zyv15, zyv120, zyv15, zyv15, zyv124, zyv17, zyv319, zyv342, zyv122, zyv120, zyv120, zyv120, zyv15, zyv36, zyv127, zyv120, zyv15, zyv120, zyv120, zyv15, zyv15, zyv120, zyv120, zyv120, zyv120, zyv120, zyv120, zyv120, zyv120, zyv120, zyv120, zyv15, zyv120, zyv120, zyv120, zyv120, zyv15, zyv15, zyv15, zyv15, zyv120, zyv120, zyv120])
noncomputable def zyr348 : List zC := [zyc248, zyc248, zyc248, zyc240, zyc10, zyc10, zyc10, zyc12, zyc241, zyc8, zyc8, zyc241, zyc8, zyc8, zyc419, zyc250]
noncomputable def zyh480 : zH := (126, [zyr178, zyr179, zyr180, zyr181, zyr182, zyr348, zyr184, zyr185], 0)
noncomputable def zyh481 : zH := (126, [zyr178, zyr179, zyr180, zyr181, zyr182, zyr348, zyr184, zyr185], zym9)
noncomputable def zyc420 : zC := .inr (8, [zyv120, zyv15, zyv15, zyv15, zyv120, zyv120, zyv120, zyv120, zyv15, zyv120, zyv15, zyv15, zyv124, zyv17, zyv319, zyv343, zyv166, zyv120, zyv120, zyv120, zyv15, zyv36, zyv127, zyv120, zyv15, zyv120, zyv120, zyv15, zyv15, zyv120, zyv120, zyv120, zyv120, zyv120, zyv120, zyv120, zyv120, zyv120, zyv120, zyv15, zyv120, zyv120, zyv120, zyv120, zyv15, zyv15, zyv15, zyv15, zyv120, zyv120, zyv120])
noncomputable def zyr349 : List zC := [zyc248, zyc248, zyc248, zyc240, zyc10, zyc10, zyc10, zyc12, zyc241, zyc8, zyc8, zyc241, zyc8, zyc8, zyc420, zyc250]
noncomputable def zyh482 : zH := (126, [zyr178, zyr179, zyr180, zyr181, zyr182, zyr349, zyr184, zyr185], zym9)
noncomputable def zyc421 : zC := .inr (8, [zyv120, zyv15, zyv15, zyv15, zyv120, zyv120, zyv120, zyv120, zyv15, zyv120, zyv15, zyv15, zyv124, zyv17, zyv319, zyv343, zyv122, zyv120, zyv120, zyv120, zyv15, zyv36, zyv127, zyv120, zyv15, zyv120, zyv120, zyv15, zyv15, zyv120, zyv120, zyv120, zyv120, zyv120, zyv120, zyv120, zyv120, zyv120, zyv120, zyv15, zyv120, zyv120, zyv120, zyv120, zyv15, zyv15, zyv15, zyv15, zyv120, zyv120, zyv120])
noncomputable def zyr350 : List zC := [zyc248, zyc248, zyc248, zyc240, zyc10, zyc10, zyc10, zyc12, zyc241, zyc8, zyc8, zyc241, zyc8, zyc8, zyc421, zyc250]
noncomputable def zyh483 : zH := (126, [zyr178, zyr179, zyr180, zyr181, zyr182, zyr350, zyr184, zyr185], 0)
noncomputable def zyh484 : zH := (126, [zyr178, zyr179, zyr180, zyr181, zyr182, zyr350, zyr184, zyr185], zym9)
noncomputable def zyc422 : zC := .inr (8, [zyv120, zyv15, zyv15, zyv15, zyv120, zyv120, zyv120, zyv120, zyv15, zyv120, zyv15, zyv15, zyv124, zyv17, zyv319, zyv344, zyv166, zyv120, zyv120, zyv120, zyv15, zyv36, zyv127, zyv120, zyv15, zyv120, zyv120, zyv15, zyv15, zyv120, zyv120, zyv120, zyv120, zyv120, zyv120, zyv120, zyv120, zyv120, zyv120, zyv15, zyv120, zyv120, zyv120, zyv120, zyv15, zyv15, zyv15, zyv15, zyv120, zyv120, zyv120])
noncomputable def zyr351 : List zC := [zyc248, zyc248, zyc248, zyc240, zyc10, zyc10, zyc10, zyc12, zyc241, zyc8, zyc8, zyc241, zyc8, zyc8, zyc422, zyc250]
noncomputable def zyh485 : zH := (126, [zyr178, zyr179, zyr180, zyr181, zyr182, zyr351, zyr184, zyr185], zym9)
noncomputable def zyc423 : zC := .inr (8, [zyv120, zyv15, zyv15, zyv15, zyv120, zyv120, zyv120, zyv120, zyv15, zyv120, zyv15, zyv15, zyv124, zyv17, zyv319, zyv344, zyv122, zyv120, zyv120, zyv120, zyv15, zyv36, zyv127, zyv120, zyv15, zyv120, zyv120, zyv15, zyv15, zyv120, zyv120, zyv120, zyv120, zyv120, zyv120, zyv120, zyv120, zyv120, zyv120, zyv15, zyv120, zyv120, zyv120, zyv120, zyv15, zyv15, zyv15, zyv15, zyv120, zyv120, zyv120])
noncomputable def zyr352 : List zC := [zyc248, zyc248, zyc248, zyc240, zyc10, zyc10, zyc10, zyc12, zyc241, zyc8, zyc8, zyc241, zyc8, zyc8, zyc423, zyc250]
noncomputable def zyh486 : zH := (126, [zyr178, zyr179, zyr180, zyr181, zyr182, zyr352, zyr184, zyr185], 0)
noncomputable def zyh487 : zH := (126, [zyr178, zyr179, zyr180, zyr181, zyr182, zyr352, zyr184, zyr185], zym9)
noncomputable def zyc424 : zC := .inr (8, [zyv120, zyv15, zyv15, zyv15, zyv120, zyv120, zyv120, zyv120, zyv15, zyv120, zyv15, zyv15, zyv124, zyv17, zyv319, zyv345, zyv166, zyv120, zyv120, zyv120, zyv15, zyv36, zyv127, zyv120, zyv15, zyv120, zyv120, zyv15, zyv15, zyv120, zyv120, zyv120, zyv120, zyv120, zyv120, zyv120, zyv120, zyv120, zyv120, zyv15, zyv120, zyv120, zyv120, zyv120, zyv15, zyv15, zyv15, zyv15, zyv120, zyv120, zyv120])
noncomputable def zyr353 : List zC := [zyc248, zyc248, zyc248, zyc240, zyc10, zyc10, zyc10, zyc12, zyc241, zyc8, zyc8, zyc241, zyc8, zyc8, zyc424, zyc250]
noncomputable def zyh488 : zH := (126, [zyr178, zyr179, zyr180, zyr181, zyr182, zyr353, zyr184, zyr185], zym9)
noncomputable def zyc425 : zC := .inr (8, [zyv120, zyv15, zyv15, zyv15, zyv120, zyv120, zyv120, zyv120, zyv15, zyv120, zyv15, zyv15, zyv124, zyv17, zyv319, zyv345, zyv122, zyv120, zyv120, zyv120, zyv15, zyv36, zyv127, zyv120, zyv15, zyv120, zyv120, zyv15, zyv15, zyv120, zyv120, zyv120, zyv120, zyv120, zyv120, zyv120, zyv120, zyv120, zyv120, zyv15, zyv120, zyv120, zyv120, zyv120, zyv15, zyv15, zyv15, zyv15, zyv120, zyv120, zyv120])
noncomputable def zyr354 : List zC := [zyc248, zyc248, zyc248, zyc240, zyc10, zyc10, zyc10, zyc12, zyc241, zyc8, zyc8, zyc241, zyc8, zyc8, zyc425, zyc250]
noncomputable def zyh489 : zH := (126, [zyr178, zyr179, zyr180, zyr181, zyr182, zyr354, zyr184, zyr185], 0)
noncomputable def zyh490 : zH := (126, [zyr178, zyr179, zyr180, zyr181, zyr182, zyr354, zyr184, zyr185], zym9)
noncomputable def zyc426 : zC := .inr (8, [zyv120, zyv15, zyv15, zyv15, zyv120, zyv120, zyv120, zyv120, zyv15, zyv120, zyv15, zyv15, zyv124, zyv17, zyv319, zyv346, zyv166, zyv120, zyv120, zyv120, zyv15, zyv36, zyv127, zyv120, zyv15, zyv120, zyv120, zyv15, zyv15, zyv120, zyv120, zyv120, zyv120, zyv120, zyv120, zyv120, zyv120, zyv120, zyv120, zyv15, zyv120, zyv120, zyv120, zyv120, zyv15, zyv15, zyv15, zyv15, zyv120, zyv120, zyv120])
noncomputable def zyr355 : List zC := [zyc248, zyc248, zyc248, zyc240, zyc10, zyc10, zyc10, zyc12, zyc241, zyc8, zyc8, zyc241, zyc8, zyc8, zyc426, zyc250]
noncomputable def zyh491 : zH := (126, [zyr178, zyr179, zyr180, zyr181, zyr182, zyr355, zyr184, zyr185], zym9)
noncomputable def zyc427 : zC := .inr (8, [zyv120, zyv15, zyv15, zyv15, zyv120, zyv120, zyv120, zyv120, zyv15, zyv120, zyv15, zyv15, zyv124, zyv17, zyv319, zyv346, zyv122, zyv120, zyv120, zyv120, zyv15, zyv36, zyv127, zyv120, zyv15, zyv120, zyv120, zyv15, zyv15, zyv120, zyv120, zyv120, zyv120, zyv120, zyv120, zyv120, zyv120, zyv120, zyv120, zyv15, zyv120, zyv120, zyv120, zyv120, zyv15, zyv15, zyv15, zyv15, zyv120, zyv120, zyv120])
noncomputable def zyr356 : List zC := [zyc248, zyc248, zyc248, zyc240, zyc10, zyc10, zyc10, zyc12, zyc241, zyc8, zyc8, zyc241, zyc8, zyc8, zyc427, zyc250]
noncomputable def zyh492 : zH := (126, [zyr178, zyr179, zyr180, zyr181, zyr182, zyr356, zyr184, zyr185], 0)
noncomputable def zyh493 : zH := (126, [zyr178, zyr179, zyr180, zyr181, zyr182, zyr356, zyr184, zyr185], zym9)
noncomputable def zyc428 : zC := .inr (8, [zyv120, zyv15, zyv15, zyv15, zyv120, zyv120, zyv120, zyv120, zyv15, zyv120, zyv15, zyv15, zyv124, zyv17, zyv319, zyv347, zyv166, zyv120, zyv120, zyv120, zyv15, zyv36, zyv127, zyv120, zyv15, zyv120, zyv120, zyv15, zyv15, zyv120, zyv120, zyv120, zyv120, zyv120, zyv120, zyv120, zyv120, zyv120, zyv120, zyv15, zyv120, zyv120, zyv120, zyv120, zyv15, zyv15, zyv15, zyv15, zyv120, zyv120, zyv120])
noncomputable def zyr357 : List zC := [zyc248, zyc248, zyc248, zyc240, zyc10, zyc10, zyc10, zyc12, zyc241, zyc8, zyc8, zyc241, zyc8, zyc8, zyc428, zyc250]
noncomputable def zyh494 : zH := (126, [zyr178, zyr179, zyr180, zyr181, zyr182, zyr357, zyr184, zyr185], zym9)
noncomputable def zyc429 : zC := .inr (8, [zyv120, zyv15, zyv15, zyv15, zyv120, zyv120, zyv120, zyv120, zyv15, zyv120, zyv15, zyv15, zyv124, zyv17, zyv319, zyv347, zyv122, zyv120, zyv120, zyv120, zyv15, zyv36, zyv127, zyv120, zyv15, zyv120, zyv120, zyv15, zyv15, zyv120, zyv120, zyv120, zyv120, zyv120, zyv120, zyv120, zyv120, zyv120, zyv120, zyv15, zyv120, zyv120, zyv120, zyv120, zyv15, zyv15, zyv15, zyv15, zyv120, zyv120, zyv120])
noncomputable def zyr358 : List zC := [zyc248, zyc248, zyc248, zyc240, zyc10, zyc10, zyc10, zyc12, zyc241, zyc8, zyc8, zyc241, zyc8, zyc8, zyc429, zyc250]
noncomputable def zyh495 : zH := (126, [zyr178, zyr179, zyr180, zyr181, zyr182, zyr358, zyr184, zyr185], 0)
noncomputable def zyh496 : zH := (126, [zyr178, zyr179, zyr180, zyr181, zyr182, zyr358, zyr184, zyr185], zym9)
noncomputable def zyc430 : zC := .inr (8, [zyv120, zyv15, zyv15, zyv15, zyv120, zyv120, zyv120, zyv120, zyv15, zyv120, zyv15, zyv15, zyv124, zyv17, zyv319, zyv348, zyv166, zyv120, zyv120, zyv120, zyv15, zyv36, zyv127, zyv120, zyv15, zyv120, zyv120, zyv15, zyv15, zyv120, zyv120, zyv120, zyv120, zyv120, zyv120, zyv120, zyv120, zyv120, zyv120, zyv15, zyv120, zyv120, zyv120, zyv120, zyv15, zyv15, zyv15, zyv15, zyv120, zyv120, zyv120])
noncomputable def zyr359 : List zC := [zyc248, zyc248, zyc248, zyc240, zyc10, zyc10, zyc10, zyc12, zyc241, zyc8, zyc8, zyc241, zyc8, zyc8, zyc430, zyc250]
noncomputable def zyh497 : zH := (126, [zyr178, zyr179, zyr180, zyr181, zyr182, zyr359, zyr184, zyr185], zym9)
noncomputable def zyc431 : zC := .inr (8, [zyv120, zyv15, zyv15, zyv15, zyv120, zyv120, zyv120, zyv120, zyv15, zyv120, zyv15, zyv15, zyv124, zyv17, zyv319, zyv348, zyv122, zyv120, zyv120, zyv120, zyv15, zyv36, zyv127, zyv120, zyv15, zyv120, zyv120, zyv15, zyv15, zyv120, zyv120, zyv120, zyv120, zyv120, zyv120, zyv120, zyv120, zyv120, zyv120, zyv15, zyv120, zyv120, zyv120, zyv120, zyv15, zyv15, zyv15, zyv15, zyv120, zyv120, zyv120])
noncomputable def zyr360 : List zC := [zyc248, zyc248, zyc248, zyc240, zyc10, zyc10, zyc10, zyc12, zyc241, zyc8, zyc8, zyc241, zyc8, zyc8, zyc431, zyc250]
noncomputable def zyh498 : zH := (126, [zyr178, zyr179, zyr180, zyr181, zyr182, zyr360, zyr184, zyr185], 0)
noncomputable def zyh499 : zH := (126, [zyr178, zyr179, zyr180, zyr181, zyr182, zyr360, zyr184, zyr185], zym9)
noncomputable def zyc432 : zC := .inr (8, [zyv120, zyv15, zyv15, zyv15, zyv120, zyv120, zyv120, zyv120, zyv15, zyv120, zyv15, zyv15, zyv124, zyv17, zyv319, zyv349, zyv166, zyv120, zyv120, zyv120, zyv15, zyv36, zyv127, zyv120, zyv15, zyv120, zyv120, zyv15, zyv15, zyv120, zyv120, zyv120, zyv120, zyv120, zyv120, zyv120, zyv120, zyv120, zyv120, zyv15, zyv120, zyv120, zyv120, zyv120, zyv15, zyv15, zyv15, zyv15, zyv120, zyv120, zyv120])
noncomputable def zyr361 : List zC := [zyc248, zyc248, zyc248, zyc240, zyc10, zyc10, zyc10, zyc12, zyc241, zyc8, zyc8, zyc241, zyc8, zyc8, zyc432, zyc250]
noncomputable def zyh500 : zH := (126, [zyr178, zyr179, zyr180, zyr181, zyr182, zyr361, zyr184, zyr185], zym9)
noncomputable def zyc433 : zC := .inr (8, [zyv120, zyv15, zyv15, zyv15, zyv120, zyv120, zyv120, zyv120, zyv15, zyv120, zyv15, zyv15, zyv124, zyv17, zyv319, zyv349, zyv122, zyv120, zyv120, zyv120, zyv15, zyv36, zyv127, zyv120, zyv15, zyv120, zyv120, zyv15, zyv15, zyv120, zyv120, zyv120, zyv120, zyv120, zyv120, zyv120, zyv120, zyv120, zyv120, zyv15, zyv120, zyv120, zyv120, zyv120, zyv15, zyv15, zyv15, zyv15, zyv120, zyv120, zyv120])
noncomputable def zyr362 : List zC := [zyc248, zyc248, zyc248, zyc240, zyc10, zyc10, zyc10, zyc12, zyc241, zyc8, zyc8, zyc241, zyc8, zyc8, zyc433, zyc250]
noncomputable def zyh501 : zH := (126, [zyr178, zyr179, zyr180, zyr181, zyr182, zyr362, zyr184, zyr185], 0)
noncomputable def zyh502 : zH := (126, [zyr178, zyr179, zyr180, zyr181, zyr182, zyr362, zyr184, zyr185], zym9)
noncomputable def zyc434 : zC := .inr (8, [zyv120, zyv15, zyv15, zyv15, zyv120, zyv120, zyv120, zyv120, zyv15, zyv120, zyv15, zyv15, zyv124, zyv17, zyv319, zyv350, zyv166, zyv120, zyv120, zyv120, zyv15, zyv36, zyv127, zyv120, zyv15, zyv120, zyv120, zyv15, zyv15, zyv120, zyv120, zyv120, zyv120, zyv120, zyv120, zyv120, zyv120, zyv120, zyv120, zyv15, zyv120, zyv120, zyv120, zyv120, zyv15, zyv15, zyv15, zyv15, zyv120, zyv120, zyv120])
noncomputable def zyr363 : List zC := [zyc248, zyc248, zyc248, zyc240, zyc10, zyc10, zyc10, zyc12, zyc241, zyc8, zyc8, zyc241, zyc8, zyc8, zyc434, zyc250]
noncomputable def zyh503 : zH := (126, [zyr178, zyr179, zyr180, zyr181, zyr182, zyr363, zyr184, zyr185], zym9)
noncomputable def zyc435 : zC := .inr (8, [zyv120, zyv15, zyv15, zyv15, zyv120, zyv120, zyv120, zyv120, zyv15, zyv120, zyv15, zyv15, zyv124, zyv17, zyv319, zyv350, zyv122, zyv120, zyv120, zyv120, zyv15, zyv36, zyv127, zyv120, zyv15, zyv120, zyv120, zyv15, zyv15, zyv120, zyv120, zyv120, zyv120, zyv120, zyv120, zyv120, zyv120, zyv120, zyv120, zyv15, zyv120, zyv120, zyv120, zyv120, zyv15, zyv15, zyv15, zyv15, zyv120, zyv120, zyv120])
noncomputable def zyr364 : List zC := [zyc248, zyc248, zyc248, zyc240, zyc10, zyc10, zyc10, zyc12, zyc241, zyc8, zyc8, zyc241, zyc8, zyc8, zyc435, zyc250]
noncomputable def zyh504 : zH := (126, [zyr178, zyr179, zyr180, zyr181, zyr182, zyr364, zyr184, zyr185], 0)
noncomputable def zyh505 : zH := (126, [zyr178, zyr179, zyr180, zyr181, zyr182, zyr364, zyr184, zyr185], zym9)
noncomputable def zyc436 : zC := .inr (8, [zyv120, zyv15, zyv15, zyv15, zyv120, zyv120, zyv120, zyv120, zyv15, zyv120, zyv15, zyv15, zyv124, zyv17, zyv319, zyv351, zyv166, zyv120, zyv120, zyv120, zyv15, zyv36, zyv127, zyv120, zyv15, zyv120, zyv120, zyv15, zyv15, zyv120, zyv120, zyv120, zyv120, zyv120, zyv120, zyv120, zyv120, zyv120, zyv120, zyv15, zyv120, zyv120, zyv120, zyv120, zyv15, zyv15, zyv15, zyv15, zyv120, zyv120, zyv120])
noncomputable def zyr365 : List zC := [zyc248, zyc248, zyc248, zyc240, zyc10, zyc10, zyc10, zyc12, zyc241, zyc8, zyc8, zyc241, zyc8, zyc8, zyc436, zyc250]
noncomputable def zyh506 : zH := (126, [zyr178, zyr179, zyr180, zyr181, zyr182, zyr365, zyr184, zyr185], zym9)
noncomputable def zyc437 : zC := .inr (8, [zyv120, zyv15, zyv15, zyv15, zyv120, zyv120, zyv120, zyv120, zyv15, zyv120, zyv15, zyv15, zyv124, zyv17, zyv319, zyv351, zyv122, zyv120, zyv120, zyv120, zyv15, zyv36, zyv127, zyv120, zyv15, zyv120, zyv120, zyv15, zyv15, zyv120, zyv120, zyv120, zyv120, zyv120, zyv120, zyv120, zyv120, zyv120, zyv120, zyv15, zyv120, zyv120, zyv120, zyv120, zyv15, zyv15, zyv15, zyv15, zyv120, zyv120, zyv120])
noncomputable def zyr366 : List zC := [zyc248, zyc248, zyc248, zyc240, zyc10, zyc10, zyc10, zyc12, zyc241, zyc8, zyc8, zyc241, zyc8, zyc8, zyc437, zyc250]
noncomputable def zyh507 : zH := (126, [zyr178, zyr179, zyr180, zyr181, zyr182, zyr366, zyr184, zyr185], 0)
noncomputable def zyh508 : zH := (126, [zyr178, zyr179, zyr180, zyr181, zyr182, zyr366, zyr184, zyr185], zym9)
noncomputable def zyc438 : zC := .inr (8, [zyv120, zyv15, zyv15, zyv15, zyv120, zyv120, zyv120, zyv120, zyv15, zyv120, zyv15, zyv15, zyv124, zyv17, zyv319, zyv352, zyv166, zyv120, zyv120, zyv120, zyv15, zyv36, zyv127, zyv120, zyv15, zyv120, zyv120, zyv15, zyv15, zyv120, zyv120, zyv120, zyv120, zyv120, zyv120, zyv120, zyv120, zyv120, zyv120, zyv15, zyv120, zyv120, zyv120, zyv120, zyv15, zyv15, zyv15, zyv15, zyv120, zyv120, zyv120])
noncomputable def zyr367 : List zC := [zyc248, zyc248, zyc248, zyc240, zyc10, zyc10, zyc10, zyc12, zyc241, zyc8, zyc8, zyc241, zyc8, zyc8, zyc438, zyc250]
noncomputable def zyh509 : zH := (126, [zyr178, zyr179, zyr180, zyr181, zyr182, zyr367, zyr184, zyr185], zym9)
noncomputable def zyc439 : zC := .inr (8, [zyv120, zyv15, zyv15, zyv15, zyv120, zyv120, zyv120, zyv120, zyv15, zyv120, zyv15, zyv15, zyv124, zyv17, zyv319, zyv352, zyv122, zyv120, zyv120, zyv120, zyv15, zyv36, zyv127, zyv120, zyv15, zyv120, zyv120, zyv15, zyv15, zyv120, zyv120, zyv120, zyv120, zyv120, zyv120, zyv120, zyv120, zyv120, zyv120, zyv15, zyv120, zyv120, zyv120, zyv120, zyv15, zyv15, zyv15, zyv15, zyv120, zyv120, zyv120])
noncomputable def zyr368 : List zC := [zyc248, zyc248, zyc248, zyc240, zyc10, zyc10, zyc10, zyc12, zyc241, zyc8, zyc8, zyc241, zyc8, zyc8, zyc439, zyc250]
noncomputable def zyh510 : zH := (126, [zyr178, zyr179, zyr180, zyr181, zyr182, zyr368, zyr184, zyr185], 0)
noncomputable def zyh511 : zH := (126, [zyr178, zyr179, zyr180, zyr181, zyr182, zyr368, zyr184, zyr185], zym9)
noncomputable def zyc440 : zC := .inr (8, [zyv120, zyv15, zyv15, zyv15, zyv120, zyv120, zyv120, zyv120, zyv15, zyv120, zyv15, zyv15, zyv124, zyv17, zyv319, zyv353, zyv166, zyv120, zyv120, zyv120, zyv15, zyv36, zyv127, zyv120, zyv15, zyv120, zyv120, zyv15, zyv15, zyv120, zyv120, zyv120, zyv120, zyv120, zyv120, zyv120, zyv120, zyv120, zyv120, zyv15, zyv120, zyv120, zyv120, zyv120, zyv15, zyv15, zyv15, zyv15, zyv120, zyv120, zyv120])
noncomputable def zyr369 : List zC := [zyc248, zyc248, zyc248, zyc240, zyc10, zyc10, zyc10, zyc12, zyc241, zyc8, zyc8, zyc241, zyc8, zyc8, zyc440, zyc250]
noncomputable def zyh512 : zH := (126, [zyr178, zyr179, zyr180, zyr181, zyr182, zyr369, zyr184, zyr185], zym9)
noncomputable def zyc441 : zC := .inr (8, [zyv120, zyv15, zyv15, zyv15, zyv120, zyv120, zyv120, zyv120, zyv15, zyv120, zyv15, zyv15, zyv124, zyv17, zyv319, zyv353, zyv122, zyv120, zyv120, zyv120, zyv15, zyv36, zyv127, zyv120, zyv15, zyv120, zyv120, zyv15, zyv15, zyv120, zyv120, zyv120, zyv120, zyv120, zyv120, zyv120, zyv120, zyv120, zyv120, zyv15, zyv120, zyv120, zyv120, zyv120, zyv15, zyv15, zyv15, zyv15, zyv120, zyv120, zyv120])
noncomputable def zyr370 : List zC := [zyc248, zyc248, zyc248, zyc240, zyc10, zyc10, zyc10, zyc12, zyc241, zyc8, zyc8, zyc241, zyc8, zyc8, zyc441, zyc250]
noncomputable def zyh513 : zH := (126, [zyr178, zyr179, zyr180, zyr181, zyr182, zyr370, zyr184, zyr185], 0)
noncomputable def zyh514 : zH := (126, [zyr178, zyr179, zyr180, zyr181, zyr182, zyr370, zyr184, zyr185], zym9)
noncomputable def zyc442 : zC := .inr (8, [zyv120, zyv15, zyv15, zyv15, zyv120, zyv120, zyv120, zyv120, zyv15, zyv120, zyv15, zyv15, zyv124, zyv17, zyv319, zyv354, zyv166, zyv120, zyv120, zyv120, zyv15, zyv36, zyv127, zyv120, zyv15, zyv120, zyv120, zyv15, zyv15, zyv120, zyv120, zyv120, zyv120, zyv120, zyv120, zyv120, zyv120, zyv120, zyv120, zyv15, zyv120, zyv120, zyv120, zyv120, zyv15, zyv15, zyv15, zyv15, zyv120, zyv120, zyv120])
noncomputable def zyr371 : List zC := [zyc248, zyc248, zyc248, zyc240, zyc10, zyc10, zyc10, zyc12, zyc241, zyc8, zyc8, zyc241, zyc8, zyc8, zyc442, zyc250]
noncomputable def zyh515 : zH := (126, [zyr178, zyr179, zyr180, zyr181, zyr182, zyr371, zyr184, zyr185], zym9)
noncomputable def zyc443 : zC := .inr (8, [zyv120, zyv15, zyv15, zyv15, zyv120, zyv120, zyv120, zyv120, zyv15, zyv120, zyv15, zyv15, zyv124, zyv17, zyv319, zyv354, zyv122, zyv120, zyv120, zyv120, zyv15, zyv36, zyv127, zyv120, zyv15, zyv120, zyv120, zyv15, zyv15, zyv120, zyv120, zyv120, zyv120, zyv120, zyv120, zyv120, zyv120, zyv120, zyv120, zyv15, zyv120, zyv120, zyv120, zyv120, zyv15, zyv15, zyv15, zyv15, zyv120, zyv120, zyv120])
noncomputable def zyr372 : List zC := [zyc248, zyc248, zyc248, zyc240, zyc10, zyc10, zyc10, zyc12, zyc241, zyc8, zyc8, zyc241, zyc8, zyc8, zyc443, zyc250]
noncomputable def zyh516 : zH := (126, [zyr178, zyr179, zyr180, zyr181, zyr182, zyr372, zyr184, zyr185], 0)
noncomputable def zyh517 : zH := (126, [zyr178, zyr179, zyr180, zyr181, zyr182, zyr372, zyr184, zyr185], zym9)
noncomputable def zyc444 : zC := .inr (8, [zyv120, zyv15, zyv15, zyv15, zyv120, zyv120, zyv120, zyv120, zyv15, zyv120, zyv15, zyv15, zyv124, zyv17, zyv319, zyv355, zyv166, zyv120, zyv120, zyv120, zyv15, zyv36, zyv127, zyv120, zyv15, zyv120, zyv120, zyv15, zyv15, zyv120, zyv120, zyv120, zyv120, zyv120, zyv120, zyv120, zyv120, zyv120, zyv120, zyv15, zyv120, zyv120, zyv120, zyv120, zyv15, zyv15, zyv15, zyv15, zyv120, zyv120, zyv120])
noncomputable def zyr373 : List zC := [zyc248, zyc248, zyc248, zyc240, zyc10, zyc10, zyc10, zyc12, zyc241, zyc8, zyc8, zyc241, zyc8, zyc8, zyc444, zyc250]
noncomputable def zyh518 : zH := (126, [zyr178, zyr179, zyr180, zyr181, zyr182, zyr373, zyr184, zyr185], zym9)
noncomputable def zyc445 : zC := .inr (8, [zyv120, zyv15, zyv15, zyv15, zyv120, zyv120, zyv120, zyv120, zyv15, zyv120, zyv15, zyv15, zyv124, zyv17, zyv319, zyv355, zyv122, zyv120, zyv120, zyv120, zyv15, zyv36, zyv127, zyv120, zyv15, zyv120, zyv120, zyv15, zyv15, zyv120, zyv120, zyv120, zyv120, zyv120, zyv120, zyv120, zyv120, zyv120, zyv120, zyv15, zyv120, zyv120, zyv120, zyv120, zyv15, zyv15, zyv15, zyv15, zyv120, zyv120, zyv120])
noncomputable def zyr374 : List zC := [zyc248, zyc248, zyc248, zyc240, zyc10, zyc10, zyc10, zyc12, zyc241, zyc8, zyc8, zyc241, zyc8, zyc8, zyc445, zyc250]
noncomputable def zyh519 : zH := (126, [zyr178, zyr179, zyr180, zyr181, zyr182, zyr374, zyr184, zyr185], 0)
noncomputable def zyh520 : zH := (126, [zyr178, zyr179, zyr180, zyr181, zyr182, zyr374, zyr184, zyr185], zym9)
noncomputable def zyc446 : zC := .inr (8, [zyv120, zyv15, zyv15, zyv15, zyv120, zyv120, zyv120, zyv120, zyv15, zyv120, zyv15, zyv15, zyv124, zyv17, zyv319, zyv356, zyv166, zyv120, zyv120, zyv120, zyv15, zyv36, zyv127, zyv120, zyv15, zyv120, zyv120, zyv15, zyv15, zyv120, zyv120, zyv120, zyv120, zyv120, zyv120, zyv120, zyv120, zyv120, zyv120, zyv15, zyv120, zyv120, zyv120, zyv120, zyv15, zyv15, zyv15, zyv15, zyv120, zyv120, zyv120])
noncomputable def zyr375 : List zC := [zyc248, zyc248, zyc248, zyc240, zyc10, zyc10, zyc10, zyc12, zyc241, zyc8, zyc8, zyc241, zyc8, zyc8, zyc446, zyc250]
noncomputable def zyh521 : zH := (126, [zyr178, zyr179, zyr180, zyr181, zyr182, zyr375, zyr184, zyr185], zym9)
noncomputable def zyc447 : zC := .inr (8, [zyv120, zyv15, zyv15, zyv15, zyv120, zyv120, zyv120, zyv120, zyv15, zyv120, zyv15, zyv15, zyv124, zyv17, zyv319, zyv356, zyv122, zyv120, zyv120, zyv120, zyv15, zyv36, zyv127, zyv120, zyv15, zyv120, zyv120, zyv15, zyv15, zyv120, zyv120, zyv120, zyv120, zyv120, zyv120, zyv120, zyv120, zyv120, zyv120, zyv15, zyv120, zyv120, zyv120, zyv120, zyv15, zyv15, zyv15, zyv15, zyv120, zyv120, zyv120])
noncomputable def zyr376 : List zC := [zyc248, zyc248, zyc248, zyc240, zyc10, zyc10, zyc10, zyc12, zyc241, zyc8, zyc8, zyc241, zyc8, zyc8, zyc447, zyc250]
noncomputable def zyh522 : zH := (126, [zyr178, zyr179, zyr180, zyr181, zyr182, zyr376, zyr184, zyr185], 0)
noncomputable def zyh523 : zH := (126, [zyr178, zyr179, zyr180, zyr181, zyr182, zyr376, zyr184, zyr185], zym9)
noncomputable def zyc448 : zC := .inr (8, [zyv120, zyv15, zyv15, zyv15, zyv120, zyv120, zyv120, zyv120, zyv15, zyv120, zyv15, zyv15, zyv124, zyv17, zyv319, zyv357, zyv166, zyv120, zyv120, zyv120, zyv15, zyv36, zyv127, zyv120, zyv15, zyv120, zyv120, zyv15, zyv15, zyv120, zyv120, zyv120, zyv120, zyv120, zyv120, zyv120, zyv120, zyv120, zyv120, zyv15, zyv120, zyv120, zyv120, zyv120, zyv15, zyv15, zyv15, zyv15, zyv120, zyv120, zyv120])
noncomputable def zyr377 : List zC := [zyc248, zyc248, zyc248, zyc240, zyc10, zyc10, zyc10, zyc12, zyc241, zyc8, zyc8, zyc241, zyc8, zyc8, zyc448, zyc250]
noncomputable def zyh524 : zH := (126, [zyr178, zyr179, zyr180, zyr181, zyr182, zyr377, zyr184, zyr185], zym9)
noncomputable def zyc449 : zC := .inr (8, [zyv120, zyv15, zyv15, zyv15, zyv120, zyv120, zyv120, zyv120, zyv15, zyv120, zyv15, zyv15, zyv124, zyv17, zyv319, zyv357, zyv122, zyv120, zyv120, zyv120, zyv15, zyv36, zyv127, zyv120, zyv15, zyv120, zyv120, zyv15, zyv15, zyv120, zyv120, zyv120, zyv120, zyv120, zyv120, zyv120, zyv120, zyv120, zyv120, zyv15, zyv120, zyv120, zyv120, zyv120, zyv15, zyv15, zyv15, zyv15, zyv120, zyv120, zyv120])
noncomputable def zyr378 : List zC := [zyc248, zyc248, zyc248, zyc240, zyc10, zyc10, zyc10, zyc12, zyc241, zyc8, zyc8, zyc241, zyc8, zyc8, zyc449, zyc250]
noncomputable def zyh525 : zH := (126, [zyr178, zyr179, zyr180, zyr181, zyr182, zyr378, zyr184, zyr185], 0)
noncomputable def zyh526 : zH := (126, [zyr178, zyr179, zyr180, zyr181, zyr182, zyr378, zyr184, zyr185], zym9)
noncomputable def zyc450 : zC := .inr (8, [zyv120, zyv15, zyv15, zyv15, zyv120, zyv120, zyv120, zyv120, zyv15, zyv120, zyv15, zyv15, zyv124, zyv17, zyv319, zyv358, zyv166, zyv120, zyv120, zyv120, zyv15, zyv36, zyv127, zyv120, zyv15, zyv120, zyv120, zyv15, zyv15, zyv120, zyv120, zyv120, zyv120, zyv120, zyv120, zyv120, zyv120, zyv120, zyv120, zyv15, zyv120, zyv120, zyv120, zyv120, zyv15, zyv15, zyv15, zyv15, zyv120, zyv120, zyv120])
noncomputable def zyr379 : List zC := [zyc248, zyc248, zyc248, zyc240, zyc10, zyc10, zyc10, zyc12, zyc241, zyc8, zyc8, zyc241, zyc8, zyc8, zyc450, zyc250]
noncomputable def zyh527 : zH := (126, [zyr178, zyr179, zyr180, zyr181, zyr182, zyr379, zyr184, zyr185], zym9)
noncomputable def zyc451 : zC := .inr (8, [zyv120, zyv15, zyv15, zyv15, zyv120, zyv120, zyv120, zyv120, zyv15, zyv120, zyv15, zyv15, zyv124, zyv17, zyv319, zyv358, zyv122, zyv120, zyv120, zyv120, zyv15, zyv36, zyv127, zyv120, zyv15, zyv120, zyv120, zyv15, zyv15, zyv120, zyv120, zyv120, zyv120, zyv120, zyv120, zyv120, zyv120, zyv120, zyv120, zyv15, zyv120, zyv120, zyv120, zyv120, zyv15, zyv15, zyv15, zyv15, zyv120, zyv120, zyv120])
noncomputable def zyr380 : List zC := [zyc248, zyc248, zyc248, zyc240, zyc10, zyc10, zyc10, zyc12, zyc241, zyc8, zyc8, zyc241, zyc8, zyc8, zyc451, zyc250]
noncomputable def zyh528 : zH := (126, [zyr178, zyr179, zyr180, zyr181, zyr182, zyr380, zyr184, zyr185], 0)
noncomputable def zyh529 : zH := (126, [zyr178, zyr179, zyr180, zyr181, zyr182, zyr380, zyr184, zyr185], zym9)
noncomputable def zyc452 : zC := .inr (8, [zyv120, zyv15, zyv15, zyv15, zyv120, zyv120, zyv120, zyv120, zyv15, zyv120, zyv15, zyv15, zyv124, zyv17, zyv319, zyv359, zyv166, zyv120, zyv120, zyv120, zyv15, zyv36, zyv127, zyv120, zyv15, zyv120, zyv120, zyv15, zyv15, zyv120, zyv120, zyv120, zyv120, zyv120, zyv120, zyv120, zyv120, zyv120, zyv120, zyv15, zyv120, zyv120, zyv120, zyv120, zyv15, zyv15, zyv15, zyv15, zyv120, zyv120, zyv120])
noncomputable def zyr381 : List zC := [zyc248, zyc248, zyc248, zyc240, zyc10, zyc10, zyc10, zyc12, zyc241, zyc8, zyc8, zyc241, zyc8, zyc8, zyc452, zyc250]
noncomputable def zyh530 : zH := (126, [zyr178, zyr179, zyr180, zyr181, zyr182, zyr381, zyr184, zyr185], zym9)
noncomputable def zyc453 : zC := .inr (8, [zyv120, zyv15, zyv15, zyv15, zyv120, zyv120, zyv120, zyv120, zyv15, zyv120, zyv15, zyv15, zyv124, zyv17, zyv319, zyv359, zyv122, zyv120, zyv120, zyv120, zyv15, zyv36, zyv127, zyv120, zyv15, zyv120, zyv120, zyv15, zyv15, zyv120, zyv120, zyv120, zyv120, zyv120, zyv120, zyv120, zyv120, zyv120, zyv120, zyv15, zyv120, zyv120, zyv120, zyv120, zyv15, zyv15, zyv15, zyv15, zyv120, zyv120, zyv120])
noncomputable def zyr382 : List zC := [zyc248, zyc248, zyc248, zyc240, zyc10, zyc10, zyc10, zyc12, zyc241, zyc8, zyc8, zyc241, zyc8, zyc8, zyc453, zyc250]
noncomputable def zyh531 : zH := (126, [zyr178, zyr179, zyr180, zyr181, zyr182, zyr382, zyr184, zyr185], 0)
noncomputable def zyh532 : zH := (126, [zyr178, zyr179, zyr180, zyr181, zyr182, zyr382, zyr184, zyr185], zym9)
noncomputable def zyc454 : zC := .inr (8, [zyv120, zyv15, zyv15, zyv15, zyv120, zyv120, zyv120, zyv120, zyv15, zyv120, zyv15, zyv15, zyv124, zyv17, zyv319, zyv360, zyv166, zyv120, zyv120, zyv120, zyv15, zyv36, zyv127, zyv120, zyv15, zyv120, zyv120, zyv15, zyv15, zyv120, zyv120, zyv120, zyv120, zyv120, zyv120, zyv120, zyv120, zyv120, zyv120, zyv15, zyv120, zyv120, zyv120, zyv120, zyv15, zyv15, zyv15, zyv15, zyv120, zyv120, zyv120])
noncomputable def zyr383 : List zC := [zyc248, zyc248, zyc248, zyc240, zyc10, zyc10, zyc10, zyc12, zyc241, zyc8, zyc8, zyc241, zyc8, zyc8, zyc454, zyc250]
noncomputable def zyh533 : zH := (126, [zyr178, zyr179, zyr180, zyr181, zyr182, zyr383, zyr184, zyr185], zym9)
noncomputable def zyc455 : zC := .inr (8, [zyv120, zyv15, zyv15, zyv15, zyv120, zyv120, zyv120, zyv120, zyv15, zyv120, zyv15, zyv15, zyv124, zyv17, zyv319, zyv360, zyv122, zyv120, zyv120, zyv120, zyv15, zyv36, zyv127, zyv120, zyv15, zyv120, zyv120, zyv15, zyv15, zyv120, zyv120, zyv120, zyv120, zyv120, zyv120, zyv120, zyv120, zyv120, zyv120, zyv15, zyv120, zyv120, zyv120, zyv120, zyv15, zyv15, zyv15, zyv15, zyv120, zyv120, zyv120])
noncomputable def zyr384 : List zC := [zyc248, zyc248, zyc248, zyc240, zyc10, zyc10, zyc10, zyc12, zyc241, zyc8, zyc8, zyc241, zyc8, zyc8, zyc455, zyc250]
noncomputable def zyh534 : zH := (126, [zyr178, zyr179, zyr180, zyr181, zyr182, zyr384, zyr184, zyr185], 0)
noncomputable def zyh535 : zH := (126, [zyr178, zyr179, zyr180, zyr181, zyr182, zyr384, zyr184, zyr185], zym9)
noncomputable def zyc456 : zC := .inr (8, [zyv120, zyv15, zyv15, zyv15, zyv120, zyv120, zyv120, zyv120, zyv15, zyv120, zyv15, zyv15, zyv124, zyv17, zyv319, zyv361, zyv166, zyv120, zyv120, zyv120, zyv15, zyv36, zyv127, zyv120, zyv15, zyv120, zyv120, zyv15, zyv15, zyv120, zyv120, zyv120, zyv120, zyv120, zyv120, zyv120, zyv120, zyv120, zyv120, zyv15, zyv120, zyv120, zyv120, zyv120, zyv15, zyv15, zyv15, zyv15, zyv120, zyv120, zyv120])
noncomputable def zyr385 : List zC := [zyc248, zyc248, zyc248, zyc240, zyc10, zyc10, zyc10, zyc12, zyc241, zyc8, zyc8, zyc241, zyc8, zyc8, zyc456, zyc250]
noncomputable def zyh536 : zH := (126, [zyr178, zyr179, zyr180, zyr181, zyr182, zyr385, zyr184, zyr185], zym9)
noncomputable def zyc457 : zC := .inr (8, [zyv120, zyv15, zyv15, zyv15, zyv120, zyv120, zyv120, zyv120, zyv15, zyv120, zyv15, zyv15, zyv124, zyv17, zyv319, zyv361, zyv122, zyv120, zyv120, zyv120, zyv15, zyv36, zyv127, zyv120, zyv15, zyv120, zyv120, zyv15, zyv15, zyv120, zyv120, zyv120, zyv120, zyv120, zyv120, zyv120, zyv120, zyv120, zyv120, zyv15, zyv120, zyv120, zyv120, zyv120, zyv15, zyv15, zyv15, zyv15, zyv120, zyv120, zyv120])
noncomputable def zyr386 : List zC := [zyc248, zyc248, zyc248, zyc240, zyc10, zyc10, zyc10, zyc12, zyc241, zyc8, zyc8, zyc241, zyc8, zyc8, zyc457, zyc250]
noncomputable def zyh537 : zH := (126, [zyr178, zyr179, zyr180, zyr181, zyr182, zyr386, zyr184, zyr185], 0)
noncomputable def zyh538 : zH := (126, [zyr178, zyr179, zyr180, zyr181, zyr182, zyr386, zyr184, zyr185], zym9)
noncomputable def zyc458 : zC := .inr (8, [zyv120, zyv15, zyv15, zyv15, zyv120, zyv120, zyv120, zyv120, zyv15, zyv120, zyv15, zyv15, zyv124, zyv17, zyv319, zyv319, zyv166, zyv120, zyv120, zyv120, zyv15, zyv36, zyv127, zyv120, zyv15, zyv120, zyv120, zyv15, zyv15, zyv120, zyv120, zyv120, zyv120, zyv120, zyv120, zyv120, zyv120, zyv120, zyv120, zyv15, zyv120, zyv120, zyv120, zyv120, zyv15, zyv15, zyv15, zyv15, zyv120, zyv120, zyv120])
noncomputable def zyr387 : List zC := [zyc248, zyc248, zyc248, zyc240, zyc10, zyc10, zyc10, zyc12, zyc241, zyc8, zyc8, zyc241, zyc8, zyc8, zyc458, zyc250]
noncomputable def zyh539 : zH := (126, [zyr178, zyr179, zyr180, zyr181, zyr182, zyr387, zyr184, zyr185], zym9)
noncomputable def zyc459 : zC := .inr (8, [zyv120, zyv15, zyv15, zyv15, zyv120, zyv120, zyv120, zyv120, zyv15, zyv120, zyv15, zyv15, zyv124, zyv17, zyv319, zyv319, zyv122, zyv120, zyv120, zyv120, zyv15, zyv36, zyv127, zyv120, zyv15, zyv120, zyv120, zyv15, zyv15, zyv120, zyv120, zyv120, zyv120, zyv120, zyv120, zyv120, zyv120, zyv120, zyv120, zyv15, zyv120, zyv120, zyv120, zyv120, zyv15, zyv15, zyv15, zyv15, zyv120, zyv120, zyv120])
noncomputable def zyr388 : List zC := [zyc248, zyc248, zyc248, zyc240, zyc10, zyc10, zyc10, zyc12, zyc241, zyc8, zyc8, zyc241, zyc8, zyc8, zyc459, zyc250]
noncomputable def zyh540 : zH := (126, [zyr178, zyr179, zyr180, zyr181, zyr182, zyr388, zyr184, zyr185], 0)
noncomputable def zyh541 : zH := (126, [zyr178, zyr179, zyr180, zyr181, zyr182, zyr388, zyr184, zyr185], zym10)
noncomputable def zyc460 : zC := .inr (8, [zyv120, zyv15, zyv15, zyv15, zyv120, zyv120, zyv120, zyv120, zyv15, zyv120, zyv15, zyv15, zyv124, zyv17, zyv319, zyv361, zyv17, zyv120, zyv120, zyv120, zyv15, zyv36, zyv127, zyv120, zyv15, zyv120, zyv120, zyv15, zyv15, zyv120, zyv120, zyv120, zyv120, zyv120, zyv120, zyv120, zyv120, zyv120, zyv120, zyv15, zyv120, zyv120, zyv120, zyv120, zyv15, zyv15, zyv15, zyv15, zyv120, zyv120, zyv120])
noncomputable def zyr389 : List zC := [zyc248, zyc248, zyc248, zyc240, zyc10, zyc10, zyc10, zyc12, zyc241, zyc8, zyc8, zyc241, zyc8, zyc8, zyc460, zyc250]
noncomputable def zyh542 : zH := (126, [zyr178, zyr179, zyr180, zyr181, zyr182, zyr389, zyr184, zyr185], zym11)
noncomputable def zyh543 : zH := (126, [zyr178, zyr179, zyr180, zyr181, zyr182, zyr387, zyr184, zyr185], zym11)
noncomputable def zyh544 : zH := (126, [zyr178, zyr179, zyr180, zyr181, zyr182, zyr386, zyr184, zyr185], zym11)
noncomputable def zyc461 : zC := .inr (8, [zyv120, zyv15, zyv15, zyv15, zyv120, zyv120, zyv120, zyv120, zyv15, zyv120, zyv15, zyv15, zyv124, zyv17, zyv319, zyv360, zyv17, zyv120, zyv120, zyv120, zyv15, zyv36, zyv127, zyv120, zyv15, zyv120, zyv120, zyv15, zyv15, zyv120, zyv120, zyv120, zyv120, zyv120, zyv120, zyv120, zyv120, zyv120, zyv120, zyv15, zyv120, zyv120, zyv120, zyv120, zyv15, zyv15, zyv15, zyv15, zyv120, zyv120, zyv120])
noncomputable def zyr390 : List zC := [zyc248, zyc248, zyc248, zyc240, zyc10, zyc10, zyc10, zyc12, zyc241, zyc8, zyc8, zyc241, zyc8, zyc8, zyc461, zyc250]
noncomputable def zyh545 : zH := (126, [zyr178, zyr179, zyr180, zyr181, zyr182, zyr390, zyr184, zyr185], zym11)
noncomputable def zyh546 : zH := (126, [zyr178, zyr179, zyr180, zyr181, zyr182, zyr385, zyr184, zyr185], zym11)
noncomputable def zyh547 : zH := (126, [zyr178, zyr179, zyr180, zyr181, zyr182, zyr384, zyr184, zyr185], zym11)
noncomputable def zyc462 : zC := .inr (8, [zyv120, zyv15, zyv15, zyv15, zyv120, zyv120, zyv120, zyv120, zyv15, zyv120, zyv15, zyv15, zyv124, zyv17, zyv319, zyv359, zyv17, zyv120, zyv120, zyv120, zyv15, zyv36, zyv127, zyv120, zyv15, zyv120, zyv120, zyv15, zyv15, zyv120, zyv120, zyv120, zyv120, zyv120, zyv120, zyv120, zyv120, zyv120, zyv120, zyv15, zyv120, zyv120, zyv120, zyv120, zyv15, zyv15, zyv15, zyv15, zyv120, zyv120, zyv120])
noncomputable def zyr391 : List zC := [zyc248, zyc248, zyc248, zyc240, zyc10, zyc10, zyc10, zyc12, zyc241, zyc8, zyc8, zyc241, zyc8, zyc8, zyc462, zyc250]
noncomputable def zyh548 : zH := (126, [zyr178, zyr179, zyr180, zyr181, zyr182, zyr391, zyr184, zyr185], zym11)
noncomputable def zyh549 : zH := (126, [zyr178, zyr179, zyr180, zyr181, zyr182, zyr383, zyr184, zyr185], zym11)
noncomputable def zyh550 : zH := (126, [zyr178, zyr179, zyr180, zyr181, zyr182, zyr382, zyr184, zyr185], zym11)
noncomputable def zyc463 : zC := .inr (8, [zyv120, zyv15, zyv15, zyv15, zyv120, zyv120, zyv120, zyv120, zyv15, zyv120, zyv15, zyv15, zyv124, zyv17, zyv319, zyv358, zyv17, zyv120, zyv120, zyv120, zyv15, zyv36, zyv127, zyv120, zyv15, zyv120, zyv120, zyv15, zyv15, zyv120, zyv120, zyv120, zyv120, zyv120, zyv120, zyv120, zyv120, zyv120, zyv120, zyv15, zyv120, zyv120, zyv120, zyv120, zyv15, zyv15, zyv15, zyv15, zyv120, zyv120, zyv120])
noncomputable def zyr392 : List zC := [zyc248, zyc248, zyc248, zyc240, zyc10, zyc10, zyc10, zyc12, zyc241, zyc8, zyc8, zyc241, zyc8, zyc8, zyc463, zyc250]
noncomputable def zyh551 : zH := (126, [zyr178, zyr179, zyr180, zyr181, zyr182, zyr392, zyr184, zyr185], zym11)
noncomputable def zyh552 : zH := (126, [zyr178, zyr179, zyr180, zyr181, zyr182, zyr381, zyr184, zyr185], zym11)
noncomputable def zyh553 : zH := (126, [zyr178, zyr179, zyr180, zyr181, zyr182, zyr380, zyr184, zyr185], zym11)
noncomputable def zyc464 : zC := .inr (8, [zyv120, zyv15, zyv15, zyv15, zyv120, zyv120, zyv120, zyv120, zyv15, zyv120, zyv15, zyv15, zyv124, zyv17, zyv319, zyv357, zyv17, zyv120, zyv120, zyv120, zyv15, zyv36, zyv127, zyv120, zyv15, zyv120, zyv120, zyv15, zyv15, zyv120, zyv120, zyv120, zyv120, zyv120, zyv120, zyv120, zyv120, zyv120, zyv120, zyv15, zyv120, zyv120, zyv120, zyv120, zyv15, zyv15, zyv15, zyv15, zyv120, zyv120, zyv120])
noncomputable def zyr393 : List zC := [zyc248, zyc248, zyc248, zyc240, zyc10, zyc10, zyc10, zyc12, zyc241, zyc8, zyc8, zyc241, zyc8, zyc8, zyc464, zyc250]
noncomputable def zyh554 : zH := (126, [zyr178, zyr179, zyr180, zyr181, zyr182, zyr393, zyr184, zyr185], zym11)
noncomputable def zyh555 : zH := (126, [zyr178, zyr179, zyr180, zyr181, zyr182, zyr379, zyr184, zyr185], zym11)
noncomputable def zyh556 : zH := (126, [zyr178, zyr179, zyr180, zyr181, zyr182, zyr378, zyr184, zyr185], zym11)
noncomputable def zyc465 : zC := .inr (8, [zyv120, zyv15, zyv15, zyv15, zyv120, zyv120, zyv120, zyv120, zyv15, zyv120, zyv15, zyv15, zyv124, zyv17, zyv319, zyv356, zyv17, zyv120, zyv120, zyv120, zyv15, zyv36, zyv127, zyv120, zyv15, zyv120, zyv120, zyv15, zyv15, zyv120, zyv120, zyv120, zyv120, zyv120, zyv120, zyv120, zyv120, zyv120, zyv120, zyv15, zyv120, zyv120, zyv120, zyv120, zyv15, zyv15, zyv15, zyv15, zyv120, zyv120, zyv120])
noncomputable def zyr394 : List zC := [zyc248, zyc248, zyc248, zyc240, zyc10, zyc10, zyc10, zyc12, zyc241, zyc8, zyc8, zyc241, zyc8, zyc8, zyc465, zyc250]
noncomputable def zyh557 : zH := (126, [zyr178, zyr179, zyr180, zyr181, zyr182, zyr394, zyr184, zyr185], zym11)
noncomputable def zyh558 : zH := (126, [zyr178, zyr179, zyr180, zyr181, zyr182, zyr377, zyr184, zyr185], zym11)
noncomputable def zyh559 : zH := (126, [zyr178, zyr179, zyr180, zyr181, zyr182, zyr376, zyr184, zyr185], zym11)
noncomputable def zyc466 : zC := .inr (8, [zyv120, zyv15, zyv15, zyv15, zyv120, zyv120, zyv120, zyv120, zyv15, zyv120, zyv15, zyv15, zyv124, zyv17, zyv319, zyv355, zyv17, zyv120, zyv120, zyv120, zyv15, zyv36, zyv127, zyv120, zyv15, zyv120, zyv120, zyv15, zyv15, zyv120, zyv120, zyv120, zyv120, zyv120, zyv120, zyv120, zyv120, zyv120, zyv120, zyv15, zyv120, zyv120, zyv120, zyv120, zyv15, zyv15, zyv15, zyv15, zyv120, zyv120, zyv120])
noncomputable def zyr395 : List zC := [zyc248, zyc248, zyc248, zyc240, zyc10, zyc10, zyc10, zyc12, zyc241, zyc8, zyc8, zyc241, zyc8, zyc8, zyc466, zyc250]
noncomputable def zyh560 : zH := (126, [zyr178, zyr179, zyr180, zyr181, zyr182, zyr395, zyr184, zyr185], zym11)
noncomputable def zyh561 : zH := (126, [zyr178, zyr179, zyr180, zyr181, zyr182, zyr375, zyr184, zyr185], zym11)
noncomputable def zyh562 : zH := (126, [zyr178, zyr179, zyr180, zyr181, zyr182, zyr374, zyr184, zyr185], zym11)
noncomputable def zyc467 : zC := .inr (8, [zyv120, zyv15, zyv15, zyv15, zyv120, zyv120, zyv120, zyv120, zyv15, zyv120, zyv15, zyv15, zyv124, zyv17, zyv319, zyv354, zyv17, zyv120, zyv120, zyv120, zyv15, zyv36, zyv127, zyv120, zyv15, zyv120, zyv120, zyv15, zyv15, zyv120, zyv120, zyv120, zyv120, zyv120, zyv120, zyv120, zyv120, zyv120, zyv120, zyv15, zyv120, zyv120, zyv120, zyv120, zyv15, zyv15, zyv15, zyv15, zyv120, zyv120, zyv120])
noncomputable def zyr396 : List zC := [zyc248, zyc248, zyc248, zyc240, zyc10, zyc10, zyc10, zyc12, zyc241, zyc8, zyc8, zyc241, zyc8, zyc8, zyc467, zyc250]
noncomputable def zyh563 : zH := (126, [zyr178, zyr179, zyr180, zyr181, zyr182, zyr396, zyr184, zyr185], zym11)
noncomputable def zyh564 : zH := (126, [zyr178, zyr179, zyr180, zyr181, zyr182, zyr373, zyr184, zyr185], zym11)
noncomputable def zyh565 : zH := (126, [zyr178, zyr179, zyr180, zyr181, zyr182, zyr372, zyr184, zyr185], zym11)
noncomputable def zyc468 : zC := .inr (8, [zyv120, zyv15, zyv15, zyv15, zyv120, zyv120, zyv120, zyv120, zyv15, zyv120, zyv15, zyv15, zyv124, zyv17, zyv319, zyv353, zyv17, zyv120, zyv120, zyv120, zyv15, zyv36, zyv127, zyv120, zyv15, zyv120, zyv120, zyv15, zyv15, zyv120, zyv120, zyv120, zyv120, zyv120, zyv120, zyv120, zyv120, zyv120, zyv120, zyv15, zyv120, zyv120, zyv120, zyv120, zyv15, zyv15, zyv15, zyv15, zyv120, zyv120, zyv120])
noncomputable def zyr397 : List zC := [zyc248, zyc248, zyc248, zyc240, zyc10, zyc10, zyc10, zyc12, zyc241, zyc8, zyc8, zyc241, zyc8, zyc8, zyc468, zyc250]
noncomputable def zyh566 : zH := (126, [zyr178, zyr179, zyr180, zyr181, zyr182, zyr397, zyr184, zyr185], zym11)
noncomputable def zyh567 : zH := (126, [zyr178, zyr179, zyr180, zyr181, zyr182, zyr371, zyr184, zyr185], zym11)
noncomputable def zyh568 : zH := (126, [zyr178, zyr179, zyr180, zyr181, zyr182, zyr370, zyr184, zyr185], zym11)
/-! X8_passes -/
noncomputable def zyx301a : List zAV := [zyv320, zyv321]
noncomputable def zyx301q : List (Option zAV × zH) := [(some (.inl ((.ofNat 0, .ofNat 0), none)), zyh424), (some (.inl ((.ofNat 1, .ofNat 1), none)), zyh425)]
noncomputable def zyx301d : zKw := (263, 2, 3, 420, zyx301a, zyh423, zyx301q)
set_option maxRecDepth 100000 in
theorem zyx301e : zrunw zprog2 (zovW []) 100000 zcut0 3 420 kX8_passes (zkinL zyx301q) 0 (zargs 0 zyx301a, [], (zyh423.1, zyh423.2.1, 0), 0, 0) = true := by decide +kernel
theorem zyx301 {l : Launch} {D : va_G} {tys : List (ClassId × FieldType)} {o : zO} {z : Nat} (E : zEnv tys) : zKnW l D vwCl tys o z (zXX o z) zTs zprog2 zyx301d :=
  zkn_ml E (fun g => fun _ h => absurd h List.not_mem_nil) (show zget zprog2 263 = some mX8_passes from rfl) rfl (by decide) (by decide) (by decide) (by decide) zyx301e
/-! X8_passes -/
noncomputable def zyx302a : List zAV := [zyv320, zyv323]
noncomputable def zyx302q : List (Option zAV × zH) := [(some (.inl ((.ofNat 0, .ofNat 0), none)), zyh427), (some (.inl ((.ofNat 1, .ofNat 1), none)), zyh428)]
noncomputable def zyx302d : zKw := (263, 2, 3, 420, zyx302a, zyh426, zyx302q)
set_option maxRecDepth 100000 in
theorem zyx302e : zrunw zprog2 (zovW []) 100000 zcut0 3 420 kX8_passes (zkinL zyx302q) 0 (zargs 0 zyx302a, [], (zyh426.1, zyh426.2.1, 0), 0, 0) = true := by decide +kernel
theorem zyx302 {l : Launch} {D : va_G} {tys : List (ClassId × FieldType)} {o : zO} {z : Nat} (E : zEnv tys) : zKnW l D vwCl tys o z (zXX o z) zTs zprog2 zyx302d :=
  zkn_ml E (fun g => fun _ h => absurd h List.not_mem_nil) (show zget zprog2 263 = some mX8_passes from rfl) rfl (by decide) (by decide) (by decide) (by decide) zyx302e
/-! X8_passes -/
noncomputable def zyx303a : List zAV := [zyv320, zyv323]
noncomputable def zyx303q : List (Option zAV × zH) := [(some (.inl ((.ofNat 0, .ofNat 0), none)), zyh430), (some (.inl ((.ofNat 1, .ofNat 1), none)), zyh431)]
noncomputable def zyx303d : zKw := (263, 2, 3, 420, zyx303a, zyh429, zyx303q)
set_option maxRecDepth 100000 in
theorem zyx303e : zrunw zprog2 (zovW []) 100000 zcut0 3 420 kX8_passes (zkinL zyx303q) 0 (zargs 0 zyx303a, [], (zyh429.1, zyh429.2.1, 0), 0, 0) = true := by decide +kernel
theorem zyx303 {l : Launch} {D : va_G} {tys : List (ClassId × FieldType)} {o : zO} {z : Nat} (E : zEnv tys) : zKnW l D vwCl tys o z (zXX o z) zTs zprog2 zyx303d :=
  zkn_ml E (fun g => fun _ h => absurd h List.not_mem_nil) (show zget zprog2 263 = some mX8_passes from rfl) rfl (by decide) (by decide) (by decide) (by decide) zyx303e
/-! X8_passes -/
noncomputable def zyx304a : List zAV := [zyv320, zyv323]
noncomputable def zyx304q : List (Option zAV × zH) := [(some (.inl ((.ofNat 0, .ofNat 0), none)), zyh433), (some (.inl ((.ofNat 1, .ofNat 1), none)), zyh434)]
noncomputable def zyx304d : zKw := (263, 2, 3, 420, zyx304a, zyh432, zyx304q)
set_option maxRecDepth 100000 in
theorem zyx304e : zrunw zprog2 (zovW []) 100000 zcut0 3 420 kX8_passes (zkinL zyx304q) 0 (zargs 0 zyx304a, [], (zyh432.1, zyh432.2.1, 0), 0, 0) = true := by decide +kernel
theorem zyx304 {l : Launch} {D : va_G} {tys : List (ClassId × FieldType)} {o : zO} {z : Nat} (E : zEnv tys) : zKnW l D vwCl tys o z (zXX o z) zTs zprog2 zyx304d :=
  zkn_ml E (fun g => fun _ h => absurd h List.not_mem_nil) (show zget zprog2 263 = some mX8_passes from rfl) rfl (by decide) (by decide) (by decide) (by decide) zyx304e
/-! X8_passes -/
noncomputable def zyx305a : List zAV := [zyv320, zyv323]
noncomputable def zyx305q : List (Option zAV × zH) := [(some (.inl ((.ofNat 0, .ofNat 0), none)), zyh436), (some (.inl ((.ofNat 1, .ofNat 1), none)), zyh437)]
noncomputable def zyx305d : zKw := (263, 2, 3, 420, zyx305a, zyh435, zyx305q)
set_option maxRecDepth 100000 in
theorem zyx305e : zrunw zprog2 (zovW []) 100000 zcut0 3 420 kX8_passes (zkinL zyx305q) 0 (zargs 0 zyx305a, [], (zyh435.1, zyh435.2.1, 0), 0, 0) = true := by decide +kernel
theorem zyx305 {l : Launch} {D : va_G} {tys : List (ClassId × FieldType)} {o : zO} {z : Nat} (E : zEnv tys) : zKnW l D vwCl tys o z (zXX o z) zTs zprog2 zyx305d :=
  zkn_ml E (fun g => fun _ h => absurd h List.not_mem_nil) (show zget zprog2 263 = some mX8_passes from rfl) rfl (by decide) (by decide) (by decide) (by decide) zyx305e
/-! X8_passes -/
noncomputable def zyx306a : List zAV := [zyv320, zyv323]
noncomputable def zyx306q : List (Option zAV × zH) := [(some (.inl ((.ofNat 0, .ofNat 0), none)), zyh439), (some (.inl ((.ofNat 1, .ofNat 1), none)), zyh440)]
noncomputable def zyx306d : zKw := (263, 2, 3, 420, zyx306a, zyh438, zyx306q)
set_option maxRecDepth 100000 in
theorem zyx306e : zrunw zprog2 (zovW []) 100000 zcut0 3 420 kX8_passes (zkinL zyx306q) 0 (zargs 0 zyx306a, [], (zyh438.1, zyh438.2.1, 0), 0, 0) = true := by decide +kernel
theorem zyx306 {l : Launch} {D : va_G} {tys : List (ClassId × FieldType)} {o : zO} {z : Nat} (E : zEnv tys) : zKnW l D vwCl tys o z (zXX o z) zTs zprog2 zyx306d :=
  zkn_ml E (fun g => fun _ h => absurd h List.not_mem_nil) (show zget zprog2 263 = some mX8_passes from rfl) rfl (by decide) (by decide) (by decide) (by decide) zyx306e
/-! X8_passes -/
noncomputable def zyx307a : List zAV := [zyv320, zyv323]
noncomputable def zyx307q : List (Option zAV × zH) := [(some (.inl ((.ofNat 0, .ofNat 0), none)), zyh442), (some (.inl ((.ofNat 1, .ofNat 1), none)), zyh443)]
noncomputable def zyx307d : zKw := (263, 2, 3, 420, zyx307a, zyh441, zyx307q)
set_option maxRecDepth 100000 in
theorem zyx307e : zrunw zprog2 (zovW []) 100000 zcut0 3 420 kX8_passes (zkinL zyx307q) 0 (zargs 0 zyx307a, [], (zyh441.1, zyh441.2.1, 0), 0, 0) = true := by decide +kernel
theorem zyx307 {l : Launch} {D : va_G} {tys : List (ClassId × FieldType)} {o : zO} {z : Nat} (E : zEnv tys) : zKnW l D vwCl tys o z (zXX o z) zTs zprog2 zyx307d :=
  zkn_ml E (fun g => fun _ h => absurd h List.not_mem_nil) (show zget zprog2 263 = some mX8_passes from rfl) rfl (by decide) (by decide) (by decide) (by decide) zyx307e
/-! X8_passes -/
noncomputable def zyx308a : List zAV := [zyv320, zyv323]
noncomputable def zyx308q : List (Option zAV × zH) := [(some (.inl ((.ofNat 0, .ofNat 0), none)), zyh445), (some (.inl ((.ofNat 1, .ofNat 1), none)), zyh446)]
noncomputable def zyx308d : zKw := (263, 2, 3, 420, zyx308a, zyh444, zyx308q)
set_option maxRecDepth 100000 in
theorem zyx308e : zrunw zprog2 (zovW []) 100000 zcut0 3 420 kX8_passes (zkinL zyx308q) 0 (zargs 0 zyx308a, [], (zyh444.1, zyh444.2.1, 0), 0, 0) = true := by decide +kernel
theorem zyx308 {l : Launch} {D : va_G} {tys : List (ClassId × FieldType)} {o : zO} {z : Nat} (E : zEnv tys) : zKnW l D vwCl tys o z (zXX o z) zTs zprog2 zyx308d :=
  zkn_ml E (fun g => fun _ h => absurd h List.not_mem_nil) (show zget zprog2 263 = some mX8_passes from rfl) rfl (by decide) (by decide) (by decide) (by decide) zyx308e
/-! X8_passes -/
noncomputable def zyx309a : List zAV := [zyv320, zyv323]
noncomputable def zyx309q : List (Option zAV × zH) := [(some (.inl ((.ofNat 0, .ofNat 0), none)), zyh448), (some (.inl ((.ofNat 1, .ofNat 1), none)), zyh449)]
noncomputable def zyx309d : zKw := (263, 2, 3, 420, zyx309a, zyh447, zyx309q)
set_option maxRecDepth 100000 in
theorem zyx309e : zrunw zprog2 (zovW []) 100000 zcut0 3 420 kX8_passes (zkinL zyx309q) 0 (zargs 0 zyx309a, [], (zyh447.1, zyh447.2.1, 0), 0, 0) = true := by decide +kernel
theorem zyx309 {l : Launch} {D : va_G} {tys : List (ClassId × FieldType)} {o : zO} {z : Nat} (E : zEnv tys) : zKnW l D vwCl tys o z (zXX o z) zTs zprog2 zyx309d :=
  zkn_ml E (fun g => fun _ h => absurd h List.not_mem_nil) (show zget zprog2 263 = some mX8_passes from rfl) rfl (by decide) (by decide) (by decide) (by decide) zyx309e
/-! X8_passes -/
noncomputable def zyx310a : List zAV := [zyv320, zyv323]
noncomputable def zyx310q : List (Option zAV × zH) := [(some (.inl ((.ofNat 0, .ofNat 0), none)), zyh451), (some (.inl ((.ofNat 1, .ofNat 1), none)), zyh452)]
noncomputable def zyx310d : zKw := (263, 2, 3, 420, zyx310a, zyh450, zyx310q)
set_option maxRecDepth 100000 in
theorem zyx310e : zrunw zprog2 (zovW []) 100000 zcut0 3 420 kX8_passes (zkinL zyx310q) 0 (zargs 0 zyx310a, [], (zyh450.1, zyh450.2.1, 0), 0, 0) = true := by decide +kernel
theorem zyx310 {l : Launch} {D : va_G} {tys : List (ClassId × FieldType)} {o : zO} {z : Nat} (E : zEnv tys) : zKnW l D vwCl tys o z (zXX o z) zTs zprog2 zyx310d :=
  zkn_ml E (fun g => fun _ h => absurd h List.not_mem_nil) (show zget zprog2 263 = some mX8_passes from rfl) rfl (by decide) (by decide) (by decide) (by decide) zyx310e
/-! X8_passes -/
noncomputable def zyx311a : List zAV := [zyv320, zyv323]
noncomputable def zyx311q : List (Option zAV × zH) := [(some (.inl ((.ofNat 0, .ofNat 0), none)), zyh454), (some (.inl ((.ofNat 1, .ofNat 1), none)), zyh455)]
noncomputable def zyx311d : zKw := (263, 2, 3, 420, zyx311a, zyh453, zyx311q)
set_option maxRecDepth 100000 in
theorem zyx311e : zrunw zprog2 (zovW []) 100000 zcut0 3 420 kX8_passes (zkinL zyx311q) 0 (zargs 0 zyx311a, [], (zyh453.1, zyh453.2.1, 0), 0, 0) = true := by decide +kernel
theorem zyx311 {l : Launch} {D : va_G} {tys : List (ClassId × FieldType)} {o : zO} {z : Nat} (E : zEnv tys) : zKnW l D vwCl tys o z (zXX o z) zTs zprog2 zyx311d :=
  zkn_ml E (fun g => fun _ h => absurd h List.not_mem_nil) (show zget zprog2 263 = some mX8_passes from rfl) rfl (by decide) (by decide) (by decide) (by decide) zyx311e
/-! X8_passes -/
noncomputable def zyx312a : List zAV := [zyv320, zyv323]
noncomputable def zyx312q : List (Option zAV × zH) := [(some (.inl ((.ofNat 0, .ofNat 0), none)), zyh457), (some (.inl ((.ofNat 1, .ofNat 1), none)), zyh458)]
noncomputable def zyx312d : zKw := (263, 2, 3, 420, zyx312a, zyh456, zyx312q)
set_option maxRecDepth 100000 in
theorem zyx312e : zrunw zprog2 (zovW []) 100000 zcut0 3 420 kX8_passes (zkinL zyx312q) 0 (zargs 0 zyx312a, [], (zyh456.1, zyh456.2.1, 0), 0, 0) = true := by decide +kernel
theorem zyx312 {l : Launch} {D : va_G} {tys : List (ClassId × FieldType)} {o : zO} {z : Nat} (E : zEnv tys) : zKnW l D vwCl tys o z (zXX o z) zTs zprog2 zyx312d :=
  zkn_ml E (fun g => fun _ h => absurd h List.not_mem_nil) (show zget zprog2 263 = some mX8_passes from rfl) rfl (by decide) (by decide) (by decide) (by decide) zyx312e
/-! X8_passes -/
noncomputable def zyx313a : List zAV := [zyv320, zyv323]
noncomputable def zyx313q : List (Option zAV × zH) := [(some (.inl ((.ofNat 0, .ofNat 0), none)), zyh460), (some (.inl ((.ofNat 1, .ofNat 1), none)), zyh461)]
noncomputable def zyx313d : zKw := (263, 2, 3, 420, zyx313a, zyh459, zyx313q)
set_option maxRecDepth 100000 in
theorem zyx313e : zrunw zprog2 (zovW []) 100000 zcut0 3 420 kX8_passes (zkinL zyx313q) 0 (zargs 0 zyx313a, [], (zyh459.1, zyh459.2.1, 0), 0, 0) = true := by decide +kernel
theorem zyx313 {l : Launch} {D : va_G} {tys : List (ClassId × FieldType)} {o : zO} {z : Nat} (E : zEnv tys) : zKnW l D vwCl tys o z (zXX o z) zTs zprog2 zyx313d :=
  zkn_ml E (fun g => fun _ h => absurd h List.not_mem_nil) (show zget zprog2 263 = some mX8_passes from rfl) rfl (by decide) (by decide) (by decide) (by decide) zyx313e
/-! X8_passes -/
noncomputable def zyx314a : List zAV := [zyv320, zyv323]
noncomputable def zyx314q : List (Option zAV × zH) := [(some (.inl ((.ofNat 0, .ofNat 0), none)), zyh463), (some (.inl ((.ofNat 1, .ofNat 1), none)), zyh464)]
noncomputable def zyx314d : zKw := (263, 2, 3, 420, zyx314a, zyh462, zyx314q)
set_option maxRecDepth 100000 in
theorem zyx314e : zrunw zprog2 (zovW []) 100000 zcut0 3 420 kX8_passes (zkinL zyx314q) 0 (zargs 0 zyx314a, [], (zyh462.1, zyh462.2.1, 0), 0, 0) = true := by decide +kernel
theorem zyx314 {l : Launch} {D : va_G} {tys : List (ClassId × FieldType)} {o : zO} {z : Nat} (E : zEnv tys) : zKnW l D vwCl tys o z (zXX o z) zTs zprog2 zyx314d :=
  zkn_ml E (fun g => fun _ h => absurd h List.not_mem_nil) (show zget zprog2 263 = some mX8_passes from rfl) rfl (by decide) (by decide) (by decide) (by decide) zyx314e
/-! X8_passes -/
noncomputable def zyx315a : List zAV := [zyv320, zyv323]
noncomputable def zyx315q : List (Option zAV × zH) := [(some (.inl ((.ofNat 0, .ofNat 0), none)), zyh466), (some (.inl ((.ofNat 1, .ofNat 1), none)), zyh467)]
noncomputable def zyx315d : zKw := (263, 2, 3, 420, zyx315a, zyh465, zyx315q)
set_option maxRecDepth 100000 in
theorem zyx315e : zrunw zprog2 (zovW []) 100000 zcut0 3 420 kX8_passes (zkinL zyx315q) 0 (zargs 0 zyx315a, [], (zyh465.1, zyh465.2.1, 0), 0, 0) = true := by decide +kernel
theorem zyx315 {l : Launch} {D : va_G} {tys : List (ClassId × FieldType)} {o : zO} {z : Nat} (E : zEnv tys) : zKnW l D vwCl tys o z (zXX o z) zTs zprog2 zyx315d :=
  zkn_ml E (fun g => fun _ h => absurd h List.not_mem_nil) (show zget zprog2 263 = some mX8_passes from rfl) rfl (by decide) (by decide) (by decide) (by decide) zyx315e
/-! X8_passes -/
noncomputable def zyx316a : List zAV := [zyv320, zyv323]
noncomputable def zyx316q : List (Option zAV × zH) := [(some (.inl ((.ofNat 0, .ofNat 0), none)), zyh469), (some (.inl ((.ofNat 1, .ofNat 1), none)), zyh470)]
noncomputable def zyx316d : zKw := (263, 2, 3, 420, zyx316a, zyh468, zyx316q)
set_option maxRecDepth 100000 in
theorem zyx316e : zrunw zprog2 (zovW []) 100000 zcut0 3 420 kX8_passes (zkinL zyx316q) 0 (zargs 0 zyx316a, [], (zyh468.1, zyh468.2.1, 0), 0, 0) = true := by decide +kernel
theorem zyx316 {l : Launch} {D : va_G} {tys : List (ClassId × FieldType)} {o : zO} {z : Nat} (E : zEnv tys) : zKnW l D vwCl tys o z (zXX o z) zTs zprog2 zyx316d :=
  zkn_ml E (fun g => fun _ h => absurd h List.not_mem_nil) (show zget zprog2 263 = some mX8_passes from rfl) rfl (by decide) (by decide) (by decide) (by decide) zyx316e
/-! X8_passes -/
noncomputable def zyx317a : List zAV := [zyv320, zyv323]
noncomputable def zyx317q : List (Option zAV × zH) := [(some (.inl ((.ofNat 0, .ofNat 0), none)), zyh472), (some (.inl ((.ofNat 1, .ofNat 1), none)), zyh473)]
noncomputable def zyx317d : zKw := (263, 2, 3, 420, zyx317a, zyh471, zyx317q)
set_option maxRecDepth 100000 in
theorem zyx317e : zrunw zprog2 (zovW []) 100000 zcut0 3 420 kX8_passes (zkinL zyx317q) 0 (zargs 0 zyx317a, [], (zyh471.1, zyh471.2.1, 0), 0, 0) = true := by decide +kernel
theorem zyx317 {l : Launch} {D : va_G} {tys : List (ClassId × FieldType)} {o : zO} {z : Nat} (E : zEnv tys) : zKnW l D vwCl tys o z (zXX o z) zTs zprog2 zyx317d :=
  zkn_ml E (fun g => fun _ h => absurd h List.not_mem_nil) (show zget zprog2 263 = some mX8_passes from rfl) rfl (by decide) (by decide) (by decide) (by decide) zyx317e
/-! X8_passes -/
noncomputable def zyx318a : List zAV := [zyv320, zyv323]
noncomputable def zyx318q : List (Option zAV × zH) := [(some (.inl ((.ofNat 0, .ofNat 0), none)), zyh475), (some (.inl ((.ofNat 1, .ofNat 1), none)), zyh476)]
noncomputable def zyx318d : zKw := (263, 2, 3, 420, zyx318a, zyh474, zyx318q)
set_option maxRecDepth 100000 in
theorem zyx318e : zrunw zprog2 (zovW []) 100000 zcut0 3 420 kX8_passes (zkinL zyx318q) 0 (zargs 0 zyx318a, [], (zyh474.1, zyh474.2.1, 0), 0, 0) = true := by decide +kernel
theorem zyx318 {l : Launch} {D : va_G} {tys : List (ClassId × FieldType)} {o : zO} {z : Nat} (E : zEnv tys) : zKnW l D vwCl tys o z (zXX o z) zTs zprog2 zyx318d :=
  zkn_ml E (fun g => fun _ h => absurd h List.not_mem_nil) (show zget zprog2 263 = some mX8_passes from rfl) rfl (by decide) (by decide) (by decide) (by decide) zyx318e
/-! X8_passes -/
noncomputable def zyx319a : List zAV := [zyv320, zyv323]
noncomputable def zyx319q : List (Option zAV × zH) := [(some (.inl ((.ofNat 0, .ofNat 0), none)), zyh478), (some (.inl ((.ofNat 1, .ofNat 1), none)), zyh479)]
noncomputable def zyx319d : zKw := (263, 2, 3, 420, zyx319a, zyh477, zyx319q)
set_option maxRecDepth 100000 in
theorem zyx319e : zrunw zprog2 (zovW []) 100000 zcut0 3 420 kX8_passes (zkinL zyx319q) 0 (zargs 0 zyx319a, [], (zyh477.1, zyh477.2.1, 0), 0, 0) = true := by decide +kernel
theorem zyx319 {l : Launch} {D : va_G} {tys : List (ClassId × FieldType)} {o : zO} {z : Nat} (E : zEnv tys) : zKnW l D vwCl tys o z (zXX o z) zTs zprog2 zyx319d :=
  zkn_ml E (fun g => fun _ h => absurd h List.not_mem_nil) (show zget zprog2 263 = some mX8_passes from rfl) rfl (by decide) (by decide) (by decide) (by decide) zyx319e
/-! X8_passes -/
noncomputable def zyx320a : List zAV := [zyv320, zyv323]
noncomputable def zyx320q : List (Option zAV × zH) := [(some (.inl ((.ofNat 0, .ofNat 0), none)), zyh481), (some (.inl ((.ofNat 1, .ofNat 1), none)), zyh482)]
noncomputable def zyx320d : zKw := (263, 2, 3, 420, zyx320a, zyh480, zyx320q)
set_option maxRecDepth 100000 in
theorem zyx320e : zrunw zprog2 (zovW []) 100000 zcut0 3 420 kX8_passes (zkinL zyx320q) 0 (zargs 0 zyx320a, [], (zyh480.1, zyh480.2.1, 0), 0, 0) = true := by decide +kernel
theorem zyx320 {l : Launch} {D : va_G} {tys : List (ClassId × FieldType)} {o : zO} {z : Nat} (E : zEnv tys) : zKnW l D vwCl tys o z (zXX o z) zTs zprog2 zyx320d :=
  zkn_ml E (fun g => fun _ h => absurd h List.not_mem_nil) (show zget zprog2 263 = some mX8_passes from rfl) rfl (by decide) (by decide) (by decide) (by decide) zyx320e
/-! X8_passes -/
noncomputable def zyx321a : List zAV := [zyv320, zyv323]
noncomputable def zyx321q : List (Option zAV × zH) := [(some (.inl ((.ofNat 0, .ofNat 0), none)), zyh484), (some (.inl ((.ofNat 1, .ofNat 1), none)), zyh485)]
noncomputable def zyx321d : zKw := (263, 2, 3, 420, zyx321a, zyh483, zyx321q)
set_option maxRecDepth 100000 in
theorem zyx321e : zrunw zprog2 (zovW []) 100000 zcut0 3 420 kX8_passes (zkinL zyx321q) 0 (zargs 0 zyx321a, [], (zyh483.1, zyh483.2.1, 0), 0, 0) = true := by decide +kernel
theorem zyx321 {l : Launch} {D : va_G} {tys : List (ClassId × FieldType)} {o : zO} {z : Nat} (E : zEnv tys) : zKnW l D vwCl tys o z (zXX o z) zTs zprog2 zyx321d :=
  zkn_ml E (fun g => fun _ h => absurd h List.not_mem_nil) (show zget zprog2 263 = some mX8_passes from rfl) rfl (by decide) (by decide) (by decide) (by decide) zyx321e
/-! X8_passes -/
noncomputable def zyx322a : List zAV := [zyv320, zyv323]
noncomputable def zyx322q : List (Option zAV × zH) := [(some (.inl ((.ofNat 0, .ofNat 0), none)), zyh487), (some (.inl ((.ofNat 1, .ofNat 1), none)), zyh488)]
noncomputable def zyx322d : zKw := (263, 2, 3, 420, zyx322a, zyh486, zyx322q)
set_option maxRecDepth 100000 in
theorem zyx322e : zrunw zprog2 (zovW []) 100000 zcut0 3 420 kX8_passes (zkinL zyx322q) 0 (zargs 0 zyx322a, [], (zyh486.1, zyh486.2.1, 0), 0, 0) = true := by decide +kernel
theorem zyx322 {l : Launch} {D : va_G} {tys : List (ClassId × FieldType)} {o : zO} {z : Nat} (E : zEnv tys) : zKnW l D vwCl tys o z (zXX o z) zTs zprog2 zyx322d :=
  zkn_ml E (fun g => fun _ h => absurd h List.not_mem_nil) (show zget zprog2 263 = some mX8_passes from rfl) rfl (by decide) (by decide) (by decide) (by decide) zyx322e
/-! X8_passes -/
noncomputable def zyx323a : List zAV := [zyv320, zyv323]
noncomputable def zyx323q : List (Option zAV × zH) := [(some (.inl ((.ofNat 0, .ofNat 0), none)), zyh490), (some (.inl ((.ofNat 1, .ofNat 1), none)), zyh491)]
noncomputable def zyx323d : zKw := (263, 2, 3, 420, zyx323a, zyh489, zyx323q)
set_option maxRecDepth 100000 in
theorem zyx323e : zrunw zprog2 (zovW []) 100000 zcut0 3 420 kX8_passes (zkinL zyx323q) 0 (zargs 0 zyx323a, [], (zyh489.1, zyh489.2.1, 0), 0, 0) = true := by decide +kernel
theorem zyx323 {l : Launch} {D : va_G} {tys : List (ClassId × FieldType)} {o : zO} {z : Nat} (E : zEnv tys) : zKnW l D vwCl tys o z (zXX o z) zTs zprog2 zyx323d :=
  zkn_ml E (fun g => fun _ h => absurd h List.not_mem_nil) (show zget zprog2 263 = some mX8_passes from rfl) rfl (by decide) (by decide) (by decide) (by decide) zyx323e
/-! X8_passes -/
noncomputable def zyx324a : List zAV := [zyv320, zyv323]
noncomputable def zyx324q : List (Option zAV × zH) := [(some (.inl ((.ofNat 0, .ofNat 0), none)), zyh493), (some (.inl ((.ofNat 1, .ofNat 1), none)), zyh494)]
noncomputable def zyx324d : zKw := (263, 2, 3, 420, zyx324a, zyh492, zyx324q)
set_option maxRecDepth 100000 in
theorem zyx324e : zrunw zprog2 (zovW []) 100000 zcut0 3 420 kX8_passes (zkinL zyx324q) 0 (zargs 0 zyx324a, [], (zyh492.1, zyh492.2.1, 0), 0, 0) = true := by decide +kernel
theorem zyx324 {l : Launch} {D : va_G} {tys : List (ClassId × FieldType)} {o : zO} {z : Nat} (E : zEnv tys) : zKnW l D vwCl tys o z (zXX o z) zTs zprog2 zyx324d :=
  zkn_ml E (fun g => fun _ h => absurd h List.not_mem_nil) (show zget zprog2 263 = some mX8_passes from rfl) rfl (by decide) (by decide) (by decide) (by decide) zyx324e
/-! X8_passes -/
noncomputable def zyx325a : List zAV := [zyv320, zyv323]
noncomputable def zyx325q : List (Option zAV × zH) := [(some (.inl ((.ofNat 0, .ofNat 0), none)), zyh496), (some (.inl ((.ofNat 1, .ofNat 1), none)), zyh497)]
noncomputable def zyx325d : zKw := (263, 2, 3, 420, zyx325a, zyh495, zyx325q)
set_option maxRecDepth 100000 in
theorem zyx325e : zrunw zprog2 (zovW []) 100000 zcut0 3 420 kX8_passes (zkinL zyx325q) 0 (zargs 0 zyx325a, [], (zyh495.1, zyh495.2.1, 0), 0, 0) = true := by decide +kernel
theorem zyx325 {l : Launch} {D : va_G} {tys : List (ClassId × FieldType)} {o : zO} {z : Nat} (E : zEnv tys) : zKnW l D vwCl tys o z (zXX o z) zTs zprog2 zyx325d :=
  zkn_ml E (fun g => fun _ h => absurd h List.not_mem_nil) (show zget zprog2 263 = some mX8_passes from rfl) rfl (by decide) (by decide) (by decide) (by decide) zyx325e
/-! X8_passes -/
noncomputable def zyx326a : List zAV := [zyv320, zyv323]
noncomputable def zyx326q : List (Option zAV × zH) := [(some (.inl ((.ofNat 0, .ofNat 0), none)), zyh499), (some (.inl ((.ofNat 1, .ofNat 1), none)), zyh500)]
noncomputable def zyx326d : zKw := (263, 2, 3, 420, zyx326a, zyh498, zyx326q)
set_option maxRecDepth 100000 in
theorem zyx326e : zrunw zprog2 (zovW []) 100000 zcut0 3 420 kX8_passes (zkinL zyx326q) 0 (zargs 0 zyx326a, [], (zyh498.1, zyh498.2.1, 0), 0, 0) = true := by decide +kernel
theorem zyx326 {l : Launch} {D : va_G} {tys : List (ClassId × FieldType)} {o : zO} {z : Nat} (E : zEnv tys) : zKnW l D vwCl tys o z (zXX o z) zTs zprog2 zyx326d :=
  zkn_ml E (fun g => fun _ h => absurd h List.not_mem_nil) (show zget zprog2 263 = some mX8_passes from rfl) rfl (by decide) (by decide) (by decide) (by decide) zyx326e
/-! X8_passes -/
noncomputable def zyx327a : List zAV := [zyv320, zyv323]
noncomputable def zyx327q : List (Option zAV × zH) := [(some (.inl ((.ofNat 0, .ofNat 0), none)), zyh502), (some (.inl ((.ofNat 1, .ofNat 1), none)), zyh503)]
noncomputable def zyx327d : zKw := (263, 2, 3, 420, zyx327a, zyh501, zyx327q)
set_option maxRecDepth 100000 in
theorem zyx327e : zrunw zprog2 (zovW []) 100000 zcut0 3 420 kX8_passes (zkinL zyx327q) 0 (zargs 0 zyx327a, [], (zyh501.1, zyh501.2.1, 0), 0, 0) = true := by decide +kernel
theorem zyx327 {l : Launch} {D : va_G} {tys : List (ClassId × FieldType)} {o : zO} {z : Nat} (E : zEnv tys) : zKnW l D vwCl tys o z (zXX o z) zTs zprog2 zyx327d :=
  zkn_ml E (fun g => fun _ h => absurd h List.not_mem_nil) (show zget zprog2 263 = some mX8_passes from rfl) rfl (by decide) (by decide) (by decide) (by decide) zyx327e
/-! X8_passes -/
noncomputable def zyx328a : List zAV := [zyv320, zyv323]
noncomputable def zyx328q : List (Option zAV × zH) := [(some (.inl ((.ofNat 0, .ofNat 0), none)), zyh505), (some (.inl ((.ofNat 1, .ofNat 1), none)), zyh506)]
noncomputable def zyx328d : zKw := (263, 2, 3, 420, zyx328a, zyh504, zyx328q)
set_option maxRecDepth 100000 in
theorem zyx328e : zrunw zprog2 (zovW []) 100000 zcut0 3 420 kX8_passes (zkinL zyx328q) 0 (zargs 0 zyx328a, [], (zyh504.1, zyh504.2.1, 0), 0, 0) = true := by decide +kernel
theorem zyx328 {l : Launch} {D : va_G} {tys : List (ClassId × FieldType)} {o : zO} {z : Nat} (E : zEnv tys) : zKnW l D vwCl tys o z (zXX o z) zTs zprog2 zyx328d :=
  zkn_ml E (fun g => fun _ h => absurd h List.not_mem_nil) (show zget zprog2 263 = some mX8_passes from rfl) rfl (by decide) (by decide) (by decide) (by decide) zyx328e
/-! X8_passes -/
noncomputable def zyx329a : List zAV := [zyv320, zyv323]
noncomputable def zyx329q : List (Option zAV × zH) := [(some (.inl ((.ofNat 0, .ofNat 0), none)), zyh508), (some (.inl ((.ofNat 1, .ofNat 1), none)), zyh509)]
noncomputable def zyx329d : zKw := (263, 2, 3, 420, zyx329a, zyh507, zyx329q)
set_option maxRecDepth 100000 in
theorem zyx329e : zrunw zprog2 (zovW []) 100000 zcut0 3 420 kX8_passes (zkinL zyx329q) 0 (zargs 0 zyx329a, [], (zyh507.1, zyh507.2.1, 0), 0, 0) = true := by decide +kernel
theorem zyx329 {l : Launch} {D : va_G} {tys : List (ClassId × FieldType)} {o : zO} {z : Nat} (E : zEnv tys) : zKnW l D vwCl tys o z (zXX o z) zTs zprog2 zyx329d :=
  zkn_ml E (fun g => fun _ h => absurd h List.not_mem_nil) (show zget zprog2 263 = some mX8_passes from rfl) rfl (by decide) (by decide) (by decide) (by decide) zyx329e
/-! X8_passes -/
noncomputable def zyx330a : List zAV := [zyv320, zyv323]
noncomputable def zyx330q : List (Option zAV × zH) := [(some (.inl ((.ofNat 0, .ofNat 0), none)), zyh511), (some (.inl ((.ofNat 1, .ofNat 1), none)), zyh512)]
noncomputable def zyx330d : zKw := (263, 2, 3, 420, zyx330a, zyh510, zyx330q)
set_option maxRecDepth 100000 in
theorem zyx330e : zrunw zprog2 (zovW []) 100000 zcut0 3 420 kX8_passes (zkinL zyx330q) 0 (zargs 0 zyx330a, [], (zyh510.1, zyh510.2.1, 0), 0, 0) = true := by decide +kernel
theorem zyx330 {l : Launch} {D : va_G} {tys : List (ClassId × FieldType)} {o : zO} {z : Nat} (E : zEnv tys) : zKnW l D vwCl tys o z (zXX o z) zTs zprog2 zyx330d :=
  zkn_ml E (fun g => fun _ h => absurd h List.not_mem_nil) (show zget zprog2 263 = some mX8_passes from rfl) rfl (by decide) (by decide) (by decide) (by decide) zyx330e
/-! X8_passes -/
noncomputable def zyx331a : List zAV := [zyv320, zyv323]
noncomputable def zyx331q : List (Option zAV × zH) := [(some (.inl ((.ofNat 0, .ofNat 0), none)), zyh514), (some (.inl ((.ofNat 1, .ofNat 1), none)), zyh515)]
noncomputable def zyx331d : zKw := (263, 2, 3, 420, zyx331a, zyh513, zyx331q)
set_option maxRecDepth 100000 in
theorem zyx331e : zrunw zprog2 (zovW []) 100000 zcut0 3 420 kX8_passes (zkinL zyx331q) 0 (zargs 0 zyx331a, [], (zyh513.1, zyh513.2.1, 0), 0, 0) = true := by decide +kernel
theorem zyx331 {l : Launch} {D : va_G} {tys : List (ClassId × FieldType)} {o : zO} {z : Nat} (E : zEnv tys) : zKnW l D vwCl tys o z (zXX o z) zTs zprog2 zyx331d :=
  zkn_ml E (fun g => fun _ h => absurd h List.not_mem_nil) (show zget zprog2 263 = some mX8_passes from rfl) rfl (by decide) (by decide) (by decide) (by decide) zyx331e
/-! X8_passes -/
noncomputable def zyx332a : List zAV := [zyv320, zyv323]
noncomputable def zyx332q : List (Option zAV × zH) := [(some (.inl ((.ofNat 0, .ofNat 0), none)), zyh517), (some (.inl ((.ofNat 1, .ofNat 1), none)), zyh518)]
noncomputable def zyx332d : zKw := (263, 2, 3, 420, zyx332a, zyh516, zyx332q)
set_option maxRecDepth 100000 in
theorem zyx332e : zrunw zprog2 (zovW []) 100000 zcut0 3 420 kX8_passes (zkinL zyx332q) 0 (zargs 0 zyx332a, [], (zyh516.1, zyh516.2.1, 0), 0, 0) = true := by decide +kernel
theorem zyx332 {l : Launch} {D : va_G} {tys : List (ClassId × FieldType)} {o : zO} {z : Nat} (E : zEnv tys) : zKnW l D vwCl tys o z (zXX o z) zTs zprog2 zyx332d :=
  zkn_ml E (fun g => fun _ h => absurd h List.not_mem_nil) (show zget zprog2 263 = some mX8_passes from rfl) rfl (by decide) (by decide) (by decide) (by decide) zyx332e
/-! X8_passes -/
noncomputable def zyx333a : List zAV := [zyv320, zyv323]
noncomputable def zyx333q : List (Option zAV × zH) := [(some (.inl ((.ofNat 0, .ofNat 0), none)), zyh520), (some (.inl ((.ofNat 1, .ofNat 1), none)), zyh521)]
noncomputable def zyx333d : zKw := (263, 2, 3, 420, zyx333a, zyh519, zyx333q)
set_option maxRecDepth 100000 in
theorem zyx333e : zrunw zprog2 (zovW []) 100000 zcut0 3 420 kX8_passes (zkinL zyx333q) 0 (zargs 0 zyx333a, [], (zyh519.1, zyh519.2.1, 0), 0, 0) = true := by decide +kernel
theorem zyx333 {l : Launch} {D : va_G} {tys : List (ClassId × FieldType)} {o : zO} {z : Nat} (E : zEnv tys) : zKnW l D vwCl tys o z (zXX o z) zTs zprog2 zyx333d :=
  zkn_ml E (fun g => fun _ h => absurd h List.not_mem_nil) (show zget zprog2 263 = some mX8_passes from rfl) rfl (by decide) (by decide) (by decide) (by decide) zyx333e
/-! X8_passes -/
noncomputable def zyx334a : List zAV := [zyv320, zyv323]
noncomputable def zyx334q : List (Option zAV × zH) := [(some (.inl ((.ofNat 0, .ofNat 0), none)), zyh523), (some (.inl ((.ofNat 1, .ofNat 1), none)), zyh524)]
noncomputable def zyx334d : zKw := (263, 2, 3, 420, zyx334a, zyh522, zyx334q)
set_option maxRecDepth 100000 in
theorem zyx334e : zrunw zprog2 (zovW []) 100000 zcut0 3 420 kX8_passes (zkinL zyx334q) 0 (zargs 0 zyx334a, [], (zyh522.1, zyh522.2.1, 0), 0, 0) = true := by decide +kernel
theorem zyx334 {l : Launch} {D : va_G} {tys : List (ClassId × FieldType)} {o : zO} {z : Nat} (E : zEnv tys) : zKnW l D vwCl tys o z (zXX o z) zTs zprog2 zyx334d :=
  zkn_ml E (fun g => fun _ h => absurd h List.not_mem_nil) (show zget zprog2 263 = some mX8_passes from rfl) rfl (by decide) (by decide) (by decide) (by decide) zyx334e
/-! X8_passes -/
noncomputable def zyx335a : List zAV := [zyv320, zyv323]
noncomputable def zyx335q : List (Option zAV × zH) := [(some (.inl ((.ofNat 0, .ofNat 0), none)), zyh526), (some (.inl ((.ofNat 1, .ofNat 1), none)), zyh527)]
noncomputable def zyx335d : zKw := (263, 2, 3, 420, zyx335a, zyh525, zyx335q)
set_option maxRecDepth 100000 in
theorem zyx335e : zrunw zprog2 (zovW []) 100000 zcut0 3 420 kX8_passes (zkinL zyx335q) 0 (zargs 0 zyx335a, [], (zyh525.1, zyh525.2.1, 0), 0, 0) = true := by decide +kernel
theorem zyx335 {l : Launch} {D : va_G} {tys : List (ClassId × FieldType)} {o : zO} {z : Nat} (E : zEnv tys) : zKnW l D vwCl tys o z (zXX o z) zTs zprog2 zyx335d :=
  zkn_ml E (fun g => fun _ h => absurd h List.not_mem_nil) (show zget zprog2 263 = some mX8_passes from rfl) rfl (by decide) (by decide) (by decide) (by decide) zyx335e
/-! X8_passes -/
noncomputable def zyx336a : List zAV := [zyv320, zyv323]
noncomputable def zyx336q : List (Option zAV × zH) := [(some (.inl ((.ofNat 0, .ofNat 0), none)), zyh529), (some (.inl ((.ofNat 1, .ofNat 1), none)), zyh530)]
noncomputable def zyx336d : zKw := (263, 2, 3, 420, zyx336a, zyh528, zyx336q)
set_option maxRecDepth 100000 in
theorem zyx336e : zrunw zprog2 (zovW []) 100000 zcut0 3 420 kX8_passes (zkinL zyx336q) 0 (zargs 0 zyx336a, [], (zyh528.1, zyh528.2.1, 0), 0, 0) = true := by decide +kernel
theorem zyx336 {l : Launch} {D : va_G} {tys : List (ClassId × FieldType)} {o : zO} {z : Nat} (E : zEnv tys) : zKnW l D vwCl tys o z (zXX o z) zTs zprog2 zyx336d :=
  zkn_ml E (fun g => fun _ h => absurd h List.not_mem_nil) (show zget zprog2 263 = some mX8_passes from rfl) rfl (by decide) (by decide) (by decide) (by decide) zyx336e
/-! X8_passes -/
noncomputable def zyx337a : List zAV := [zyv320, zyv323]
noncomputable def zyx337q : List (Option zAV × zH) := [(some (.inl ((.ofNat 0, .ofNat 0), none)), zyh532), (some (.inl ((.ofNat 1, .ofNat 1), none)), zyh533)]
noncomputable def zyx337d : zKw := (263, 2, 3, 420, zyx337a, zyh531, zyx337q)
set_option maxRecDepth 100000 in
theorem zyx337e : zrunw zprog2 (zovW []) 100000 zcut0 3 420 kX8_passes (zkinL zyx337q) 0 (zargs 0 zyx337a, [], (zyh531.1, zyh531.2.1, 0), 0, 0) = true := by decide +kernel
theorem zyx337 {l : Launch} {D : va_G} {tys : List (ClassId × FieldType)} {o : zO} {z : Nat} (E : zEnv tys) : zKnW l D vwCl tys o z (zXX o z) zTs zprog2 zyx337d :=
  zkn_ml E (fun g => fun _ h => absurd h List.not_mem_nil) (show zget zprog2 263 = some mX8_passes from rfl) rfl (by decide) (by decide) (by decide) (by decide) zyx337e
/-! X8_passes -/
noncomputable def zyx338a : List zAV := [zyv320, zyv323]
noncomputable def zyx338q : List (Option zAV × zH) := [(some (.inl ((.ofNat 0, .ofNat 0), none)), zyh535), (some (.inl ((.ofNat 1, .ofNat 1), none)), zyh536)]
noncomputable def zyx338d : zKw := (263, 2, 3, 420, zyx338a, zyh534, zyx338q)
set_option maxRecDepth 100000 in
theorem zyx338e : zrunw zprog2 (zovW []) 100000 zcut0 3 420 kX8_passes (zkinL zyx338q) 0 (zargs 0 zyx338a, [], (zyh534.1, zyh534.2.1, 0), 0, 0) = true := by decide +kernel
theorem zyx338 {l : Launch} {D : va_G} {tys : List (ClassId × FieldType)} {o : zO} {z : Nat} (E : zEnv tys) : zKnW l D vwCl tys o z (zXX o z) zTs zprog2 zyx338d :=
  zkn_ml E (fun g => fun _ h => absurd h List.not_mem_nil) (show zget zprog2 263 = some mX8_passes from rfl) rfl (by decide) (by decide) (by decide) (by decide) zyx338e
/-! X8_passes -/
noncomputable def zyx339a : List zAV := [zyv320, zyv323]
noncomputable def zyx339q : List (Option zAV × zH) := [(some (.inl ((.ofNat 0, .ofNat 0), none)), zyh538), (some (.inl ((.ofNat 1, .ofNat 1), none)), zyh539)]
noncomputable def zyx339d : zKw := (263, 2, 3, 420, zyx339a, zyh537, zyx339q)
set_option maxRecDepth 100000 in
theorem zyx339e : zrunw zprog2 (zovW []) 100000 zcut0 3 420 kX8_passes (zkinL zyx339q) 0 (zargs 0 zyx339a, [], (zyh537.1, zyh537.2.1, 0), 0, 0) = true := by decide +kernel
theorem zyx339 {l : Launch} {D : va_G} {tys : List (ClassId × FieldType)} {o : zO} {z : Nat} (E : zEnv tys) : zKnW l D vwCl tys o z (zXX o z) zTs zprog2 zyx339d :=
  zkn_ml E (fun g => fun _ h => absurd h List.not_mem_nil) (show zget zprog2 263 = some mX8_passes from rfl) rfl (by decide) (by decide) (by decide) (by decide) zyx339e
/-! X8_passes -/
noncomputable def zyx340a : List zAV := [zyv320, zyv323]
noncomputable def zyx340q : List (Option zAV × zH) := [(some (.inl ((.ofNat 0, .ofNat 0), none)), zyh540)]
noncomputable def zyx340d : zKw := (263, 2, 3, 420, zyx340a, zyh540, zyx340q)
set_option maxRecDepth 100000 in
theorem zyx340e : zrunw zprog2 (zovW []) 100000 zcut0 3 420 kX8_passes (zkinL zyx340q) 0 (zargs 0 zyx340a, [], (zyh540.1, zyh540.2.1, 0), 0, 0) = true := by decide +kernel
theorem zyx340 {l : Launch} {D : va_G} {tys : List (ClassId × FieldType)} {o : zO} {z : Nat} (E : zEnv tys) : zKnW l D vwCl tys o z (zXX o z) zTs zprog2 zyx340d :=
  zkn_ml E (fun g => fun _ h => absurd h List.not_mem_nil) (show zget zprog2 263 = some mX8_passes from rfl) rfl (by decide) (by decide) (by decide) (by decide) zyx340e
/-! X8_thing -/
noncomputable def zyx341a : List zAV := [.inr (.inr (.inl 94)), .inl ((.ofNat 0, .ofNat 4), none)]
def zyx341r : Option zAV := some (.inl ((.negSucc 2147483647, .ofNat 2147483647), none))
noncomputable def zyx341p : List zPw := []
noncomputable def zyx341d : zKw := (292, 4, 4, 540, zyx341a, zyh540, [(zyx341r, zyh541)])
set_option maxRecDepth 100000 in
theorem zyx341e : zrunw zprog2 (zovW [zyx340d]) 100000 (zcutW [] none ((zyx341r, zyh541), 4, 540) zyx341p) 4 540 k2X8_thing (zkin zyx341r zyh541) 0 (zargs 0 zyx341a, [], (zyh540.1, zyh540.2.1, 0), 0, 0) = true := by decide +kernel
theorem zyx341 {l : Launch} {D : va_G} {tys : List (ClassId × FieldType)} {o : zO} {z : Nat} (E : zEnv tys) : zKnW l D vwCl tys o z (zXX o z) zTs zprog2 zyx341d :=
  zkn_mk E (fun g => List.forall_mem_cons.mpr ⟨zyx340 (o := zwith o g) E, fun _ h => absurd h List.not_mem_nil⟩) (show zget zprog2 292 = some m2X8_thing from rfl) rfl (by decide) (by decide) (by decide) (by decide) (G := zyx341p) (fun _ h => absurd h List.not_mem_nil) zyx341e
/-! X8_product ((('r', 102), 40, 40),) -/
noncomputable def zyx342a : List zAV := [.inr (.inr (.inl 94)), .inl ((.ofNat 0, .ofNat 4), none)]
def zyx342r : Option zAV := some (.inl ((.negSucc 2147483647, .ofNat 2147483647), none))
noncomputable def zyx342q : zPw := ((6, ([(0, .inr (.inr (.inl 94))), (1, .inl ((.ofNat 0, .ofNat 4), some (1, .ofNat 0))), (2, .inl ((.negSucc 2147483647, .ofNat 2147483647), some (2, .ofNat 0)))], [], zyh541, 0, 0), [], 0), (zyx342r, zyh541), 5, 660)
set_option maxRecDepth 100000 in
theorem zyx342c : zchkX [(94, 15)] zprog2 (zovW [zyx341d]) 100000 k2X8_product [] [zyx342q] [zyx342q] = true := by decide +kernel
theorem zyx342k {l : Launch} {D : va_G} {tys : List (ClassId × FieldType)} {o : zO} {z : Nat} (E : zEnv tys) : zPtOk l D vwCl tys o z (zXX o z) zTs m2X8_product zyx342q := zkn_pt E (fun g => List.forall_mem_cons.mpr ⟨zyx341 (o := zwith o g) E, fun _ h => absurd h List.not_mem_nil⟩) (show zget zprog2 265 = some m2X8_product from rfl) (fun _ h => absurd h List.not_mem_nil) zyx342c _ List.mem_cons_self
noncomputable def zyx342d : zKw := (265, 5, 5, 660, zyx342a, zyh540, [(zyx342r, zyh541)])
set_option maxRecDepth 100000 in
theorem zyx342e : zrunw zprog2 (zovW [zyx341d]) 100000 (zcutW [(94, 15)] none ((zyx342r, zyh541), 5, 660) [zyx342q]) 5 660 k2X8_product (zkin zyx342r zyh541) 0 (zargs 0 zyx342a, [], (zyh540.1, zyh540.2.1, 0), 0, 0) = true := by decide +kernel
theorem zyx342 {l : Launch} {D : va_G} {tys : List (ClassId × FieldType)} {o : zO} {z : Nat} (E : zEnv tys) : zKnW l D vwCl tys o z (zXX o z) zTs zprog2 zyx342d :=
  zkn_mk E (fun g => List.forall_mem_cons.mpr ⟨zyx341 (o := zwith o g) E, fun _ h => absurd h List.not_mem_nil⟩) (show zget zprog2 265 = some m2X8_product from rfl) rfl (by decide) (by decide) (by decide) (by decide) (G := [zyx342q]) (List.forall_mem_cons.mpr ⟨zyx342k E, fun _ h => absurd h List.not_mem_nil⟩) zyx342e
/-! X8_sum ((('r', 102), 40, 40),) -/
noncomputable def zyx343a : List zAV := [.inr (.inr (.inl 94)), .inl ((.ofNat 1, .ofNat 4), none)]
def zyx343r : Option zAV := some (.inl ((.negSucc 2147483647, .ofNat 2147483647), none))
noncomputable def zyx343q : zPw := ((6, ([(0, .inr (.inr (.inl 94))), (1, .inl ((.ofNat 0, .ofNat 4), some (1, .ofNat 0))), (2, .inl ((.negSucc 2147483647, .ofNat 2147483647), some (2, .ofNat 0)))], [], zyh541, 0, 0), [], 0), (zyx343r, zyh541), 6, 780)
set_option maxRecDepth 100000 in
theorem zyx343c : zchkX [(94, 15)] zprog2 (zovW [zyx342d]) 100000 kX8_sum [] [zyx343q] [zyx343q] = true := by decide +kernel
theorem zyx343k {l : Launch} {D : va_G} {tys : List (ClassId × FieldType)} {o : zO} {z : Nat} (E : zEnv tys) : zPtOk l D vwCl tys o z (zXX o z) zTs mX8_sum zyx343q := zkn_pt E (fun g => List.forall_mem_cons.mpr ⟨zyx342 (o := zwith o g) E, fun _ h => absurd h List.not_mem_nil⟩) (show zget zprog2 284 = some mX8_sum from rfl) (fun _ h => absurd h List.not_mem_nil) zyx343c _ List.mem_cons_self
noncomputable def zyx343d : zKw := (284, 5, 6, 780, zyx343a, zyh540, [(zyx343r, zyh541)])
set_option maxRecDepth 100000 in
theorem zyx343e : zrunw zprog2 (zovW [zyx342d]) 100000 (zcutW [(94, 15)] none ((zyx343r, zyh541), 6, 780) [zyx343q]) 6 780 kX8_sum (zkin zyx343r zyh541) 0 (zargs 0 zyx343a, [], (zyh540.1, zyh540.2.1, 0), 0, 0) = true := by decide +kernel
theorem zyx343 {l : Launch} {D : va_G} {tys : List (ClassId × FieldType)} {o : zO} {z : Nat} (E : zEnv tys) : zKnW l D vwCl tys o z (zXX o z) zTs zprog2 zyx343d :=
  zkn_mk E (fun g => List.forall_mem_cons.mpr ⟨zyx342 (o := zwith o g) E, fun _ h => absurd h List.not_mem_nil⟩) (show zget zprog2 284 = some mX8_sum from rfl) rfl (by decide) (by decide) (by decide) (by decide) (G := [zyx343q]) (List.forall_mem_cons.mpr ⟨zyx343k E, fun _ h => absurd h List.not_mem_nil⟩) zyx343e
/-! X8_heldBy -/
noncomputable def zyx344a : List zAV := [.inr (.inr (.inl 94)), .inl ((.ofNat 1, .ofNat 4), none)]
def zyx344r : Option zAV := some (.inl ((.negSucc 2147483647, .ofNat 2147483647), none))
noncomputable def zyx344p : List zPw := []
noncomputable def zyx344d : zKw := (229, 3, 7, 900, zyx344a, zyh540, [(zyx344r, zyh541)])
set_option maxRecDepth 100000 in
theorem zyx344e : zrunw zprog2 (zovW [zyx343d, zyx340d]) 100000 (zcutW [] none ((zyx344r, zyh541), 7, 900) zyx344p) 7 900 kX8_heldBy (zkin zyx344r zyh541) 0 (zargs 0 zyx344a, [], (zyh540.1, zyh540.2.1, 0), 0, 0) = true := by decide +kernel
theorem zyx344 {l : Launch} {D : va_G} {tys : List (ClassId × FieldType)} {o : zO} {z : Nat} (E : zEnv tys) : zKnW l D vwCl tys o z (zXX o z) zTs zprog2 zyx344d :=
  zkn_mk E (fun g => List.forall_mem_cons.mpr ⟨zyx343 (o := zwith o g) E, List.forall_mem_cons.mpr ⟨zyx340 (o := zwith o g) E, fun _ h => absurd h List.not_mem_nil⟩⟩) (show zget zprog2 229 = some mX8_heldBy from rfl) rfl (by decide) (by decide) (by decide) (by decide) (G := zyx344p) (fun _ h => absurd h List.not_mem_nil) zyx344e
/-! X8_oneOf -/
noncomputable def zyx345a : List zAV := [zyv320, zyv362, zyv363]
noncomputable def zyx345q : List (Option zAV × zH) := [(some (.inl ((.ofNat 0, .ofNat 0), none)), zyh542), (some (.inl ((.negSucc 175, .ofNat 79), none)), zyh543)]
noncomputable def zyx345d : zKw := (260, 3, 4, 480, zyx345a, zyh537, zyx345q)
set_option maxRecDepth 100000 in
theorem zyx345e : zrunw zprog2 (zovW []) 100000 zcut0 4 480 kX8_oneOf (zkinL zyx345q) 0 (zargs 0 zyx345a, [], (zyh537.1, zyh537.2.1, 0), 0, 0) = true := by decide +kernel
theorem zyx345 {l : Launch} {D : va_G} {tys : List (ClassId × FieldType)} {o : zO} {z : Nat} (E : zEnv tys) : zKnW l D vwCl tys o z (zXX o z) zTs zprog2 zyx345d :=
  zkn_ml E (fun g => fun _ h => absurd h List.not_mem_nil) (show zget zprog2 260 = some mX8_oneOf from rfl) rfl (by decide) (by decide) (by decide) (by decide) zyx345e
/-! X8_number -/
noncomputable def zyx346a : List zAV := [.inr (.inr (.inl 94)), .inl ((.ofNat 3, .ofNat 3), none)]
def zyx346r : Option zAV := some (.inl ((.negSucc 2147483647, .ofNat 2147483647), none))
noncomputable def zyx346p : List zPw := [((11, ([(0, .inr (.inr (.inl 94))), (1, .inl ((.ofNat 3, .ofNat 3), some (1, .ofNat 0))), (2, .inl ((.negSucc 2147483647, .ofNat 2147483647), some (2, .ofNat 0))), (3, .inl ((.ofNat 1, .ofNat 3), some (3, .ofNat 0)))], [], zyh544, 0, 0), [(3, .negSucc 1)], .ofNat 7), (zyx346r, zyh544), 5, 600)]
noncomputable def zyx346d : zKw := (259, 4, 5, 600, zyx346a, zyh537, [(zyx346r, zyh544)])
set_option maxRecDepth 100000 in
theorem zyx346c : zchkX [] zprog2 (zovW [zyx345d]) 100000 kX8_number [] zyx346p zyx346p = true := by decide +kernel
set_option maxRecDepth 100000 in
theorem zyx346e : zrunw zprog2 (zovW [zyx345d]) 100000 (zcutW [] none ((zyx346r, zyh544), 5, 600) zyx346p) 5 600 kX8_number (zkin zyx346r zyh544) 0 (zargs 0 zyx346a, [], (zyh537.1, zyh537.2.1, 0), 0, 0) = true := by decide +kernel
theorem zyx346 {l : Launch} {D : va_G} {tys : List (ClassId × FieldType)} {o : zO} {z : Nat} (E : zEnv tys) : zKnW l D vwCl tys o z (zXX o z) zTs zprog2 zyx346d :=
  zkn_mk E (fun g => List.forall_mem_cons.mpr ⟨zyx345 (o := zwith o g) E, fun _ h => absurd h List.not_mem_nil⟩) (show zget zprog2 259 = some mX8_number from rfl) rfl (by decide) (by decide) (by decide) (by decide) (G := zyx346p) (zkn_pt E (fun g => List.forall_mem_cons.mpr ⟨zyx345 (o := zwith o g) E, fun _ h => absurd h List.not_mem_nil⟩) (show zget zprog2 259 = some mX8_number from rfl) (fun _ h => absurd h List.not_mem_nil) zyx346c) zyx346e
/-! X8_thing -/
noncomputable def zyx347a : List zAV := [.inr (.inr (.inl 94)), .inl ((.ofNat 0, .ofNat 4), none)]
def zyx347r : Option zAV := some (.inl ((.negSucc 2147483647, .ofNat 2147483647), none))
noncomputable def zyx347p : List zPw := []
noncomputable def zyx347d : zKw := (292, 4, 8, 1020, zyx347a, zyh537, [(zyx347r, zyh544)])
set_option maxRecDepth 100000 in
theorem zyx347e : zrunw zprog2 (zovW [zyx346d, zyx344d, zyx341d, zyx339d, zyx340d]) 100000 (zcutW [] none ((zyx347r, zyh544), 8, 1020) zyx347p) 8 1020 k2X8_thing (zkin zyx347r zyh544) 0 (zargs 0 zyx347a, [], (zyh537.1, zyh537.2.1, 0), 0, 0) = true := by decide +kernel
theorem zyx347 {l : Launch} {D : va_G} {tys : List (ClassId × FieldType)} {o : zO} {z : Nat} (E : zEnv tys) : zKnW l D vwCl tys o z (zXX o z) zTs zprog2 zyx347d :=
  zkn_mk E (fun g => List.forall_mem_cons.mpr ⟨zyx346 (o := zwith o g) E, List.forall_mem_cons.mpr ⟨zyx344 (o := zwith o g) E, List.forall_mem_cons.mpr ⟨zyx341 (o := zwith o g) E, List.forall_mem_cons.mpr ⟨zyx339 (o := zwith o g) E, List.forall_mem_cons.mpr ⟨zyx340 (o := zwith o g) E, fun _ h => absurd h List.not_mem_nil⟩⟩⟩⟩⟩) (show zget zprog2 292 = some m2X8_thing from rfl) rfl (by decide) (by decide) (by decide) (by decide) (G := zyx347p) (fun _ h => absurd h List.not_mem_nil) zyx347e
/-! X8_product ((('r', 102), 40, 39),) -/
noncomputable def zyx348a : List zAV := [.inr (.inr (.inl 94)), .inl ((.ofNat 0, .ofNat 4), none)]
def zyx348r : Option zAV := some (.inl ((.negSucc 2147483647, .ofNat 2147483647), none))
noncomputable def zyx348q : zPw := ((6, ([(0, .inr (.inr (.inl 94))), (1, .inl ((.ofNat 0, .ofNat 4), some (1, .ofNat 0))), (2, .inl ((.negSucc 2147483647, .ofNat 2147483647), some (2, .ofNat 0)))], [], zyh544, 0, 0), [], 0), (zyx348r, zyh544), 9, 1140)
set_option maxRecDepth 100000 in
theorem zyx348c : zchkX [(94, 15)] zprog2 (zovW [zyx347d, zyx341d]) 100000 k2X8_product [zyx342q] [zyx348q] [zyx348q] = true := by decide +kernel
theorem zyx348k {l : Launch} {D : va_G} {tys : List (ClassId × FieldType)} {o : zO} {z : Nat} (E : zEnv tys) : zPtOk l D vwCl tys o z (zXX o z) zTs m2X8_product zyx348q := zkn_pt E (fun g => List.forall_mem_cons.mpr ⟨zyx347 (o := zwith o g) E, List.forall_mem_cons.mpr ⟨zyx341 (o := zwith o g) E, fun _ h => absurd h List.not_mem_nil⟩⟩) (show zget zprog2 265 = some m2X8_product from rfl) (List.forall_mem_cons.mpr ⟨zyx342k E, fun _ h => absurd h List.not_mem_nil⟩) zyx348c _ List.mem_cons_self
noncomputable def zyx348d : zKw := (265, 5, 9, 1140, zyx348a, zyh537, [(zyx348r, zyh544)])
set_option maxRecDepth 100000 in
theorem zyx348e : zrunw zprog2 (zovW [zyx347d, zyx341d]) 100000 (zcutW [(94, 15)] none ((zyx348r, zyh544), 9, 1140) [zyx348q, zyx342q]) 9 1140 k2X8_product (zkin zyx348r zyh544) 0 (zargs 0 zyx348a, [], (zyh537.1, zyh537.2.1, 0), 0, 0) = true := by decide +kernel
theorem zyx348 {l : Launch} {D : va_G} {tys : List (ClassId × FieldType)} {o : zO} {z : Nat} (E : zEnv tys) : zKnW l D vwCl tys o z (zXX o z) zTs zprog2 zyx348d :=
  zkn_mk E (fun g => List.forall_mem_cons.mpr ⟨zyx347 (o := zwith o g) E, List.forall_mem_cons.mpr ⟨zyx341 (o := zwith o g) E, fun _ h => absurd h List.not_mem_nil⟩⟩) (show zget zprog2 265 = some m2X8_product from rfl) rfl (by decide) (by decide) (by decide) (by decide) (G := [zyx348q, zyx342q]) (List.forall_mem_cons.mpr ⟨zyx348k E, List.forall_mem_cons.mpr ⟨zyx342k E, fun _ h => absurd h List.not_mem_nil⟩⟩) zyx348e
/-! X8_sum ((('r', 102), 40, 39),) -/
noncomputable def zyx349a : List zAV := [.inr (.inr (.inl 94)), .inl ((.ofNat 1, .ofNat 4), none)]
def zyx349r : Option zAV := some (.inl ((.negSucc 2147483647, .ofNat 2147483647), none))
noncomputable def zyx349q : zPw := ((6, ([(0, .inr (.inr (.inl 94))), (1, .inl ((.ofNat 0, .ofNat 4), some (1, .ofNat 0))), (2, .inl ((.negSucc 2147483647, .ofNat 2147483647), some (2, .ofNat 0)))], [], zyh544, 0, 0), [], 0), (zyx349r, zyh544), 10, 1260)
set_option maxRecDepth 100000 in
theorem zyx349c : zchkX [(94, 15)] zprog2 (zovW [zyx348d, zyx342d]) 100000 kX8_sum [zyx343q] [zyx349q] [zyx349q] = true := by decide +kernel
theorem zyx349k {l : Launch} {D : va_G} {tys : List (ClassId × FieldType)} {o : zO} {z : Nat} (E : zEnv tys) : zPtOk l D vwCl tys o z (zXX o z) zTs mX8_sum zyx349q := zkn_pt E (fun g => List.forall_mem_cons.mpr ⟨zyx348 (o := zwith o g) E, List.forall_mem_cons.mpr ⟨zyx342 (o := zwith o g) E, fun _ h => absurd h List.not_mem_nil⟩⟩) (show zget zprog2 284 = some mX8_sum from rfl) (List.forall_mem_cons.mpr ⟨zyx343k E, fun _ h => absurd h List.not_mem_nil⟩) zyx349c _ List.mem_cons_self
noncomputable def zyx349d : zKw := (284, 5, 10, 1260, zyx349a, zyh537, [(zyx349r, zyh544)])
set_option maxRecDepth 100000 in
theorem zyx349e : zrunw zprog2 (zovW [zyx348d, zyx342d]) 100000 (zcutW [(94, 15)] none ((zyx349r, zyh544), 10, 1260) [zyx349q, zyx343q]) 10 1260 kX8_sum (zkin zyx349r zyh544) 0 (zargs 0 zyx349a, [], (zyh537.1, zyh537.2.1, 0), 0, 0) = true := by decide +kernel
theorem zyx349 {l : Launch} {D : va_G} {tys : List (ClassId × FieldType)} {o : zO} {z : Nat} (E : zEnv tys) : zKnW l D vwCl tys o z (zXX o z) zTs zprog2 zyx349d :=
  zkn_mk E (fun g => List.forall_mem_cons.mpr ⟨zyx348 (o := zwith o g) E, List.forall_mem_cons.mpr ⟨zyx342 (o := zwith o g) E, fun _ h => absurd h List.not_mem_nil⟩⟩) (show zget zprog2 284 = some mX8_sum from rfl) rfl (by decide) (by decide) (by decide) (by decide) (G := [zyx349q, zyx343q]) (List.forall_mem_cons.mpr ⟨zyx349k E, List.forall_mem_cons.mpr ⟨zyx343k E, fun _ h => absurd h List.not_mem_nil⟩⟩) zyx349e
/-! X8_heldBy -/
noncomputable def zyx350a : List zAV := [.inr (.inr (.inl 94)), .inl ((.ofNat 1, .ofNat 4), none)]
def zyx350r : Option zAV := some (.inl ((.negSucc 2147483647, .ofNat 2147483647), none))
noncomputable def zyx350p : List zPw := []
noncomputable def zyx350d : zKw := (229, 3, 11, 1380, zyx350a, zyh537, [(zyx350r, zyh544)])
set_option maxRecDepth 100000 in
theorem zyx350e : zrunw zprog2 (zovW [zyx349d, zyx343d, zyx339d]) 100000 (zcutW [] none ((zyx350r, zyh544), 11, 1380) zyx350p) 11 1380 kX8_heldBy (zkin zyx350r zyh544) 0 (zargs 0 zyx350a, [], (zyh537.1, zyh537.2.1, 0), 0, 0) = true := by decide +kernel
theorem zyx350 {l : Launch} {D : va_G} {tys : List (ClassId × FieldType)} {o : zO} {z : Nat} (E : zEnv tys) : zKnW l D vwCl tys o z (zXX o z) zTs zprog2 zyx350d :=
  zkn_mk E (fun g => List.forall_mem_cons.mpr ⟨zyx349 (o := zwith o g) E, List.forall_mem_cons.mpr ⟨zyx343 (o := zwith o g) E, List.forall_mem_cons.mpr ⟨zyx339 (o := zwith o g) E, fun _ h => absurd h List.not_mem_nil⟩⟩⟩) (show zget zprog2 229 = some mX8_heldBy from rfl) rfl (by decide) (by decide) (by decide) (by decide) (G := zyx350p) (fun _ h => absurd h List.not_mem_nil) zyx350e
/-! X8_oneOf -/
noncomputable def zyx351a : List zAV := [zyv320, zyv362, zyv363]
noncomputable def zyx351q : List (Option zAV × zH) := [(some (.inl ((.ofNat 0, .ofNat 0), none)), zyh545), (some (.inl ((.negSucc 175, .ofNat 79), none)), zyh546)]
noncomputable def zyx351d : zKw := (260, 3, 4, 480, zyx351a, zyh534, zyx351q)
set_option maxRecDepth 100000 in
theorem zyx351e : zrunw zprog2 (zovW []) 100000 zcut0 4 480 kX8_oneOf (zkinL zyx351q) 0 (zargs 0 zyx351a, [], (zyh534.1, zyh534.2.1, 0), 0, 0) = true := by decide +kernel
theorem zyx351 {l : Launch} {D : va_G} {tys : List (ClassId × FieldType)} {o : zO} {z : Nat} (E : zEnv tys) : zKnW l D vwCl tys o z (zXX o z) zTs zprog2 zyx351d :=
  zkn_ml E (fun g => fun _ h => absurd h List.not_mem_nil) (show zget zprog2 260 = some mX8_oneOf from rfl) rfl (by decide) (by decide) (by decide) (by decide) zyx351e
/-! X8_number -/
noncomputable def zyx352a : List zAV := [.inr (.inr (.inl 94)), .inl ((.ofNat 3, .ofNat 3), none)]
def zyx352r : Option zAV := some (.inl ((.negSucc 2147483647, .ofNat 2147483647), none))
noncomputable def zyx352p : List zPw := [((11, ([(0, .inr (.inr (.inl 94))), (1, .inl ((.ofNat 3, .ofNat 3), some (1, .ofNat 0))), (2, .inl ((.negSucc 2147483647, .ofNat 2147483647), some (2, .ofNat 0))), (3, .inl ((.ofNat 1, .ofNat 3), some (3, .ofNat 0)))], [], zyh547, 0, 0), [(3, .negSucc 1)], .ofNat 7), (zyx352r, zyh547), 5, 600)]
noncomputable def zyx352d : zKw := (259, 4, 5, 600, zyx352a, zyh534, [(zyx352r, zyh547)])
set_option maxRecDepth 100000 in
theorem zyx352c : zchkX [] zprog2 (zovW [zyx351d]) 100000 kX8_number [] zyx352p zyx352p = true := by decide +kernel
set_option maxRecDepth 100000 in
theorem zyx352e : zrunw zprog2 (zovW [zyx351d]) 100000 (zcutW [] none ((zyx352r, zyh547), 5, 600) zyx352p) 5 600 kX8_number (zkin zyx352r zyh547) 0 (zargs 0 zyx352a, [], (zyh534.1, zyh534.2.1, 0), 0, 0) = true := by decide +kernel
theorem zyx352 {l : Launch} {D : va_G} {tys : List (ClassId × FieldType)} {o : zO} {z : Nat} (E : zEnv tys) : zKnW l D vwCl tys o z (zXX o z) zTs zprog2 zyx352d :=
  zkn_mk E (fun g => List.forall_mem_cons.mpr ⟨zyx351 (o := zwith o g) E, fun _ h => absurd h List.not_mem_nil⟩) (show zget zprog2 259 = some mX8_number from rfl) rfl (by decide) (by decide) (by decide) (by decide) (G := zyx352p) (zkn_pt E (fun g => List.forall_mem_cons.mpr ⟨zyx351 (o := zwith o g) E, fun _ h => absurd h List.not_mem_nil⟩) (show zget zprog2 259 = some mX8_number from rfl) (fun _ h => absurd h List.not_mem_nil) zyx352c) zyx352e
/-! X8_thing -/
noncomputable def zyx353a : List zAV := [.inr (.inr (.inl 94)), .inl ((.ofNat 0, .ofNat 4), none)]
def zyx353r : Option zAV := some (.inl ((.negSucc 2147483647, .ofNat 2147483647), none))
noncomputable def zyx353p : List zPw := []
noncomputable def zyx353d : zKw := (292, 4, 12, 1500, zyx353a, zyh534, [(zyx353r, zyh547)])
set_option maxRecDepth 100000 in
theorem zyx353e : zrunw zprog2 (zovW [zyx352d, zyx350d, zyx347d, zyx338d, zyx339d]) 100000 (zcutW [] none ((zyx353r, zyh547), 12, 1500) zyx353p) 12 1500 k2X8_thing (zkin zyx353r zyh547) 0 (zargs 0 zyx353a, [], (zyh534.1, zyh534.2.1, 0), 0, 0) = true := by decide +kernel
theorem zyx353 {l : Launch} {D : va_G} {tys : List (ClassId × FieldType)} {o : zO} {z : Nat} (E : zEnv tys) : zKnW l D vwCl tys o z (zXX o z) zTs zprog2 zyx353d :=
  zkn_mk E (fun g => List.forall_mem_cons.mpr ⟨zyx352 (o := zwith o g) E, List.forall_mem_cons.mpr ⟨zyx350 (o := zwith o g) E, List.forall_mem_cons.mpr ⟨zyx347 (o := zwith o g) E, List.forall_mem_cons.mpr ⟨zyx338 (o := zwith o g) E, List.forall_mem_cons.mpr ⟨zyx339 (o := zwith o g) E, fun _ h => absurd h List.not_mem_nil⟩⟩⟩⟩⟩) (show zget zprog2 292 = some m2X8_thing from rfl) rfl (by decide) (by decide) (by decide) (by decide) (G := zyx353p) (fun _ h => absurd h List.not_mem_nil) zyx353e
/-! X8_product ((('r', 102), 40, 38),) -/
noncomputable def zyx354a : List zAV := [.inr (.inr (.inl 94)), .inl ((.ofNat 0, .ofNat 4), none)]
def zyx354r : Option zAV := some (.inl ((.negSucc 2147483647, .ofNat 2147483647), none))
noncomputable def zyx354q : zPw := ((6, ([(0, .inr (.inr (.inl 94))), (1, .inl ((.ofNat 0, .ofNat 4), some (1, .ofNat 0))), (2, .inl ((.negSucc 2147483647, .ofNat 2147483647), some (2, .ofNat 0)))], [], zyh547, 0, 0), [], 0), (zyx354r, zyh547), 13, 1620)
set_option maxRecDepth 100000 in
theorem zyx354c : zchkX [(94, 15)] zprog2 (zovW [zyx353d, zyx347d]) 100000 k2X8_product [zyx348q, zyx342q] [zyx354q] [zyx354q] = true := by decide +kernel
theorem zyx354k {l : Launch} {D : va_G} {tys : List (ClassId × FieldType)} {o : zO} {z : Nat} (E : zEnv tys) : zPtOk l D vwCl tys o z (zXX o z) zTs m2X8_product zyx354q := zkn_pt E (fun g => List.forall_mem_cons.mpr ⟨zyx353 (o := zwith o g) E, List.forall_mem_cons.mpr ⟨zyx347 (o := zwith o g) E, fun _ h => absurd h List.not_mem_nil⟩⟩) (show zget zprog2 265 = some m2X8_product from rfl) (List.forall_mem_cons.mpr ⟨zyx348k E, List.forall_mem_cons.mpr ⟨zyx342k E, fun _ h => absurd h List.not_mem_nil⟩⟩) zyx354c _ List.mem_cons_self
noncomputable def zyx354d : zKw := (265, 5, 13, 1620, zyx354a, zyh534, [(zyx354r, zyh547)])
set_option maxRecDepth 100000 in
theorem zyx354e : zrunw zprog2 (zovW [zyx353d, zyx347d]) 100000 (zcutW [(94, 15)] none ((zyx354r, zyh547), 13, 1620) [zyx354q, zyx348q, zyx342q]) 13 1620 k2X8_product (zkin zyx354r zyh547) 0 (zargs 0 zyx354a, [], (zyh534.1, zyh534.2.1, 0), 0, 0) = true := by decide +kernel
theorem zyx354 {l : Launch} {D : va_G} {tys : List (ClassId × FieldType)} {o : zO} {z : Nat} (E : zEnv tys) : zKnW l D vwCl tys o z (zXX o z) zTs zprog2 zyx354d :=
  zkn_mk E (fun g => List.forall_mem_cons.mpr ⟨zyx353 (o := zwith o g) E, List.forall_mem_cons.mpr ⟨zyx347 (o := zwith o g) E, fun _ h => absurd h List.not_mem_nil⟩⟩) (show zget zprog2 265 = some m2X8_product from rfl) rfl (by decide) (by decide) (by decide) (by decide) (G := [zyx354q, zyx348q, zyx342q]) (List.forall_mem_cons.mpr ⟨zyx354k E, List.forall_mem_cons.mpr ⟨zyx348k E, List.forall_mem_cons.mpr ⟨zyx342k E, fun _ h => absurd h List.not_mem_nil⟩⟩⟩) zyx354e
/-! X8_sum ((('r', 102), 40, 38),) -/
noncomputable def zyx355a : List zAV := [.inr (.inr (.inl 94)), .inl ((.ofNat 1, .ofNat 4), none)]
def zyx355r : Option zAV := some (.inl ((.negSucc 2147483647, .ofNat 2147483647), none))
noncomputable def zyx355q : zPw := ((6, ([(0, .inr (.inr (.inl 94))), (1, .inl ((.ofNat 0, .ofNat 4), some (1, .ofNat 0))), (2, .inl ((.negSucc 2147483647, .ofNat 2147483647), some (2, .ofNat 0)))], [], zyh547, 0, 0), [], 0), (zyx355r, zyh547), 14, 1740)
set_option maxRecDepth 100000 in
theorem zyx355c : zchkX [(94, 15)] zprog2 (zovW [zyx354d, zyx348d]) 100000 kX8_sum [zyx349q, zyx343q] [zyx355q] [zyx355q] = true := by decide +kernel
theorem zyx355k {l : Launch} {D : va_G} {tys : List (ClassId × FieldType)} {o : zO} {z : Nat} (E : zEnv tys) : zPtOk l D vwCl tys o z (zXX o z) zTs mX8_sum zyx355q := zkn_pt E (fun g => List.forall_mem_cons.mpr ⟨zyx354 (o := zwith o g) E, List.forall_mem_cons.mpr ⟨zyx348 (o := zwith o g) E, fun _ h => absurd h List.not_mem_nil⟩⟩) (show zget zprog2 284 = some mX8_sum from rfl) (List.forall_mem_cons.mpr ⟨zyx349k E, List.forall_mem_cons.mpr ⟨zyx343k E, fun _ h => absurd h List.not_mem_nil⟩⟩) zyx355c _ List.mem_cons_self
noncomputable def zyx355d : zKw := (284, 5, 14, 1740, zyx355a, zyh534, [(zyx355r, zyh547)])
set_option maxRecDepth 100000 in
theorem zyx355e : zrunw zprog2 (zovW [zyx354d, zyx348d]) 100000 (zcutW [(94, 15)] none ((zyx355r, zyh547), 14, 1740) [zyx355q, zyx349q, zyx343q]) 14 1740 kX8_sum (zkin zyx355r zyh547) 0 (zargs 0 zyx355a, [], (zyh534.1, zyh534.2.1, 0), 0, 0) = true := by decide +kernel
theorem zyx355 {l : Launch} {D : va_G} {tys : List (ClassId × FieldType)} {o : zO} {z : Nat} (E : zEnv tys) : zKnW l D vwCl tys o z (zXX o z) zTs zprog2 zyx355d :=
  zkn_mk E (fun g => List.forall_mem_cons.mpr ⟨zyx354 (o := zwith o g) E, List.forall_mem_cons.mpr ⟨zyx348 (o := zwith o g) E, fun _ h => absurd h List.not_mem_nil⟩⟩) (show zget zprog2 284 = some mX8_sum from rfl) rfl (by decide) (by decide) (by decide) (by decide) (G := [zyx355q, zyx349q, zyx343q]) (List.forall_mem_cons.mpr ⟨zyx355k E, List.forall_mem_cons.mpr ⟨zyx349k E, List.forall_mem_cons.mpr ⟨zyx343k E, fun _ h => absurd h List.not_mem_nil⟩⟩⟩) zyx355e
/-! X8_heldBy -/
noncomputable def zyx356a : List zAV := [.inr (.inr (.inl 94)), .inl ((.ofNat 1, .ofNat 4), none)]
def zyx356r : Option zAV := some (.inl ((.negSucc 2147483647, .ofNat 2147483647), none))
noncomputable def zyx356p : List zPw := []
noncomputable def zyx356d : zKw := (229, 3, 15, 1860, zyx356a, zyh534, [(zyx356r, zyh547)])
set_option maxRecDepth 100000 in
theorem zyx356e : zrunw zprog2 (zovW [zyx355d, zyx349d, zyx338d]) 100000 (zcutW [] none ((zyx356r, zyh547), 15, 1860) zyx356p) 15 1860 kX8_heldBy (zkin zyx356r zyh547) 0 (zargs 0 zyx356a, [], (zyh534.1, zyh534.2.1, 0), 0, 0) = true := by decide +kernel
theorem zyx356 {l : Launch} {D : va_G} {tys : List (ClassId × FieldType)} {o : zO} {z : Nat} (E : zEnv tys) : zKnW l D vwCl tys o z (zXX o z) zTs zprog2 zyx356d :=
  zkn_mk E (fun g => List.forall_mem_cons.mpr ⟨zyx355 (o := zwith o g) E, List.forall_mem_cons.mpr ⟨zyx349 (o := zwith o g) E, List.forall_mem_cons.mpr ⟨zyx338 (o := zwith o g) E, fun _ h => absurd h List.not_mem_nil⟩⟩⟩) (show zget zprog2 229 = some mX8_heldBy from rfl) rfl (by decide) (by decide) (by decide) (by decide) (G := zyx356p) (fun _ h => absurd h List.not_mem_nil) zyx356e
/-! X8_oneOf -/
noncomputable def zyx357a : List zAV := [zyv320, zyv362, zyv363]
noncomputable def zyx357q : List (Option zAV × zH) := [(some (.inl ((.ofNat 0, .ofNat 0), none)), zyh548), (some (.inl ((.negSucc 175, .ofNat 79), none)), zyh549)]
noncomputable def zyx357d : zKw := (260, 3, 4, 480, zyx357a, zyh531, zyx357q)
set_option maxRecDepth 100000 in
theorem zyx357e : zrunw zprog2 (zovW []) 100000 zcut0 4 480 kX8_oneOf (zkinL zyx357q) 0 (zargs 0 zyx357a, [], (zyh531.1, zyh531.2.1, 0), 0, 0) = true := by decide +kernel
theorem zyx357 {l : Launch} {D : va_G} {tys : List (ClassId × FieldType)} {o : zO} {z : Nat} (E : zEnv tys) : zKnW l D vwCl tys o z (zXX o z) zTs zprog2 zyx357d :=
  zkn_ml E (fun g => fun _ h => absurd h List.not_mem_nil) (show zget zprog2 260 = some mX8_oneOf from rfl) rfl (by decide) (by decide) (by decide) (by decide) zyx357e
/-! X8_number -/
noncomputable def zyx358a : List zAV := [.inr (.inr (.inl 94)), .inl ((.ofNat 3, .ofNat 3), none)]
def zyx358r : Option zAV := some (.inl ((.negSucc 2147483647, .ofNat 2147483647), none))
noncomputable def zyx358p : List zPw := [((11, ([(0, .inr (.inr (.inl 94))), (1, .inl ((.ofNat 3, .ofNat 3), some (1, .ofNat 0))), (2, .inl ((.negSucc 2147483647, .ofNat 2147483647), some (2, .ofNat 0))), (3, .inl ((.ofNat 1, .ofNat 3), some (3, .ofNat 0)))], [], zyh550, 0, 0), [(3, .negSucc 1)], .ofNat 7), (zyx358r, zyh550), 5, 600)]
noncomputable def zyx358d : zKw := (259, 4, 5, 600, zyx358a, zyh531, [(zyx358r, zyh550)])
set_option maxRecDepth 100000 in
theorem zyx358c : zchkX [] zprog2 (zovW [zyx357d]) 100000 kX8_number [] zyx358p zyx358p = true := by decide +kernel
set_option maxRecDepth 100000 in
theorem zyx358e : zrunw zprog2 (zovW [zyx357d]) 100000 (zcutW [] none ((zyx358r, zyh550), 5, 600) zyx358p) 5 600 kX8_number (zkin zyx358r zyh550) 0 (zargs 0 zyx358a, [], (zyh531.1, zyh531.2.1, 0), 0, 0) = true := by decide +kernel
theorem zyx358 {l : Launch} {D : va_G} {tys : List (ClassId × FieldType)} {o : zO} {z : Nat} (E : zEnv tys) : zKnW l D vwCl tys o z (zXX o z) zTs zprog2 zyx358d :=
  zkn_mk E (fun g => List.forall_mem_cons.mpr ⟨zyx357 (o := zwith o g) E, fun _ h => absurd h List.not_mem_nil⟩) (show zget zprog2 259 = some mX8_number from rfl) rfl (by decide) (by decide) (by decide) (by decide) (G := zyx358p) (zkn_pt E (fun g => List.forall_mem_cons.mpr ⟨zyx357 (o := zwith o g) E, fun _ h => absurd h List.not_mem_nil⟩) (show zget zprog2 259 = some mX8_number from rfl) (fun _ h => absurd h List.not_mem_nil) zyx358c) zyx358e
/-! X8_thing -/
noncomputable def zyx359a : List zAV := [.inr (.inr (.inl 94)), .inl ((.ofNat 0, .ofNat 4), none)]
def zyx359r : Option zAV := some (.inl ((.negSucc 2147483647, .ofNat 2147483647), none))
noncomputable def zyx359p : List zPw := []
noncomputable def zyx359d : zKw := (292, 4, 16, 1980, zyx359a, zyh531, [(zyx359r, zyh550)])
set_option maxRecDepth 100000 in
theorem zyx359e : zrunw zprog2 (zovW [zyx358d, zyx356d, zyx353d, zyx337d, zyx338d]) 100000 (zcutW [] none ((zyx359r, zyh550), 16, 1980) zyx359p) 16 1980 k2X8_thing (zkin zyx359r zyh550) 0 (zargs 0 zyx359a, [], (zyh531.1, zyh531.2.1, 0), 0, 0) = true := by decide +kernel
theorem zyx359 {l : Launch} {D : va_G} {tys : List (ClassId × FieldType)} {o : zO} {z : Nat} (E : zEnv tys) : zKnW l D vwCl tys o z (zXX o z) zTs zprog2 zyx359d :=
  zkn_mk E (fun g => List.forall_mem_cons.mpr ⟨zyx358 (o := zwith o g) E, List.forall_mem_cons.mpr ⟨zyx356 (o := zwith o g) E, List.forall_mem_cons.mpr ⟨zyx353 (o := zwith o g) E, List.forall_mem_cons.mpr ⟨zyx337 (o := zwith o g) E, List.forall_mem_cons.mpr ⟨zyx338 (o := zwith o g) E, fun _ h => absurd h List.not_mem_nil⟩⟩⟩⟩⟩) (show zget zprog2 292 = some m2X8_thing from rfl) rfl (by decide) (by decide) (by decide) (by decide) (G := zyx359p) (fun _ h => absurd h List.not_mem_nil) zyx359e
/-! X8_product ((('r', 102), 40, 37),) -/
noncomputable def zyx360a : List zAV := [.inr (.inr (.inl 94)), .inl ((.ofNat 0, .ofNat 4), none)]
def zyx360r : Option zAV := some (.inl ((.negSucc 2147483647, .ofNat 2147483647), none))
noncomputable def zyx360q : zPw := ((6, ([(0, .inr (.inr (.inl 94))), (1, .inl ((.ofNat 0, .ofNat 4), some (1, .ofNat 0))), (2, .inl ((.negSucc 2147483647, .ofNat 2147483647), some (2, .ofNat 0)))], [], zyh550, 0, 0), [], 0), (zyx360r, zyh550), 17, 2100)
set_option maxRecDepth 100000 in
theorem zyx360c : zchkX [(94, 15)] zprog2 (zovW [zyx359d, zyx353d]) 100000 k2X8_product [zyx354q, zyx348q, zyx342q] [zyx360q] [zyx360q] = true := by decide +kernel
theorem zyx360k {l : Launch} {D : va_G} {tys : List (ClassId × FieldType)} {o : zO} {z : Nat} (E : zEnv tys) : zPtOk l D vwCl tys o z (zXX o z) zTs m2X8_product zyx360q := zkn_pt E (fun g => List.forall_mem_cons.mpr ⟨zyx359 (o := zwith o g) E, List.forall_mem_cons.mpr ⟨zyx353 (o := zwith o g) E, fun _ h => absurd h List.not_mem_nil⟩⟩) (show zget zprog2 265 = some m2X8_product from rfl) (List.forall_mem_cons.mpr ⟨zyx354k E, List.forall_mem_cons.mpr ⟨zyx348k E, List.forall_mem_cons.mpr ⟨zyx342k E, fun _ h => absurd h List.not_mem_nil⟩⟩⟩) zyx360c _ List.mem_cons_self
noncomputable def zyx360d : zKw := (265, 5, 17, 2100, zyx360a, zyh531, [(zyx360r, zyh550)])
set_option maxRecDepth 100000 in
theorem zyx360e : zrunw zprog2 (zovW [zyx359d, zyx353d]) 100000 (zcutW [(94, 15)] none ((zyx360r, zyh550), 17, 2100) [zyx360q, zyx354q, zyx348q, zyx342q]) 17 2100 k2X8_product (zkin zyx360r zyh550) 0 (zargs 0 zyx360a, [], (zyh531.1, zyh531.2.1, 0), 0, 0) = true := by decide +kernel
theorem zyx360 {l : Launch} {D : va_G} {tys : List (ClassId × FieldType)} {o : zO} {z : Nat} (E : zEnv tys) : zKnW l D vwCl tys o z (zXX o z) zTs zprog2 zyx360d :=
  zkn_mk E (fun g => List.forall_mem_cons.mpr ⟨zyx359 (o := zwith o g) E, List.forall_mem_cons.mpr ⟨zyx353 (o := zwith o g) E, fun _ h => absurd h List.not_mem_nil⟩⟩) (show zget zprog2 265 = some m2X8_product from rfl) rfl (by decide) (by decide) (by decide) (by decide) (G := [zyx360q, zyx354q, zyx348q, zyx342q]) (List.forall_mem_cons.mpr ⟨zyx360k E, List.forall_mem_cons.mpr ⟨zyx354k E, List.forall_mem_cons.mpr ⟨zyx348k E, List.forall_mem_cons.mpr ⟨zyx342k E, fun _ h => absurd h List.not_mem_nil⟩⟩⟩⟩) zyx360e
/-! X8_sum ((('r', 102), 40, 37),) -/
noncomputable def zyx361a : List zAV := [.inr (.inr (.inl 94)), .inl ((.ofNat 1, .ofNat 4), none)]
def zyx361r : Option zAV := some (.inl ((.negSucc 2147483647, .ofNat 2147483647), none))
noncomputable def zyx361q : zPw := ((6, ([(0, .inr (.inr (.inl 94))), (1, .inl ((.ofNat 0, .ofNat 4), some (1, .ofNat 0))), (2, .inl ((.negSucc 2147483647, .ofNat 2147483647), some (2, .ofNat 0)))], [], zyh550, 0, 0), [], 0), (zyx361r, zyh550), 18, 2220)
set_option maxRecDepth 100000 in
theorem zyx361c : zchkX [(94, 15)] zprog2 (zovW [zyx360d, zyx354d]) 100000 kX8_sum [zyx355q, zyx349q, zyx343q] [zyx361q] [zyx361q] = true := by decide +kernel
theorem zyx361k {l : Launch} {D : va_G} {tys : List (ClassId × FieldType)} {o : zO} {z : Nat} (E : zEnv tys) : zPtOk l D vwCl tys o z (zXX o z) zTs mX8_sum zyx361q := zkn_pt E (fun g => List.forall_mem_cons.mpr ⟨zyx360 (o := zwith o g) E, List.forall_mem_cons.mpr ⟨zyx354 (o := zwith o g) E, fun _ h => absurd h List.not_mem_nil⟩⟩) (show zget zprog2 284 = some mX8_sum from rfl) (List.forall_mem_cons.mpr ⟨zyx355k E, List.forall_mem_cons.mpr ⟨zyx349k E, List.forall_mem_cons.mpr ⟨zyx343k E, fun _ h => absurd h List.not_mem_nil⟩⟩⟩) zyx361c _ List.mem_cons_self
noncomputable def zyx361d : zKw := (284, 5, 18, 2220, zyx361a, zyh531, [(zyx361r, zyh550)])
set_option maxRecDepth 100000 in
theorem zyx361e : zrunw zprog2 (zovW [zyx360d, zyx354d]) 100000 (zcutW [(94, 15)] none ((zyx361r, zyh550), 18, 2220) [zyx361q, zyx355q, zyx349q, zyx343q]) 18 2220 kX8_sum (zkin zyx361r zyh550) 0 (zargs 0 zyx361a, [], (zyh531.1, zyh531.2.1, 0), 0, 0) = true := by decide +kernel
theorem zyx361 {l : Launch} {D : va_G} {tys : List (ClassId × FieldType)} {o : zO} {z : Nat} (E : zEnv tys) : zKnW l D vwCl tys o z (zXX o z) zTs zprog2 zyx361d :=
  zkn_mk E (fun g => List.forall_mem_cons.mpr ⟨zyx360 (o := zwith o g) E, List.forall_mem_cons.mpr ⟨zyx354 (o := zwith o g) E, fun _ h => absurd h List.not_mem_nil⟩⟩) (show zget zprog2 284 = some mX8_sum from rfl) rfl (by decide) (by decide) (by decide) (by decide) (G := [zyx361q, zyx355q, zyx349q, zyx343q]) (List.forall_mem_cons.mpr ⟨zyx361k E, List.forall_mem_cons.mpr ⟨zyx355k E, List.forall_mem_cons.mpr ⟨zyx349k E, List.forall_mem_cons.mpr ⟨zyx343k E, fun _ h => absurd h List.not_mem_nil⟩⟩⟩⟩) zyx361e
/-! X8_heldBy -/
noncomputable def zyx362a : List zAV := [.inr (.inr (.inl 94)), .inl ((.ofNat 1, .ofNat 4), none)]
def zyx362r : Option zAV := some (.inl ((.negSucc 2147483647, .ofNat 2147483647), none))
noncomputable def zyx362p : List zPw := []
noncomputable def zyx362d : zKw := (229, 3, 19, 2340, zyx362a, zyh531, [(zyx362r, zyh550)])
set_option maxRecDepth 100000 in
theorem zyx362e : zrunw zprog2 (zovW [zyx361d, zyx355d, zyx337d]) 100000 (zcutW [] none ((zyx362r, zyh550), 19, 2340) zyx362p) 19 2340 kX8_heldBy (zkin zyx362r zyh550) 0 (zargs 0 zyx362a, [], (zyh531.1, zyh531.2.1, 0), 0, 0) = true := by decide +kernel
theorem zyx362 {l : Launch} {D : va_G} {tys : List (ClassId × FieldType)} {o : zO} {z : Nat} (E : zEnv tys) : zKnW l D vwCl tys o z (zXX o z) zTs zprog2 zyx362d :=
  zkn_mk E (fun g => List.forall_mem_cons.mpr ⟨zyx361 (o := zwith o g) E, List.forall_mem_cons.mpr ⟨zyx355 (o := zwith o g) E, List.forall_mem_cons.mpr ⟨zyx337 (o := zwith o g) E, fun _ h => absurd h List.not_mem_nil⟩⟩⟩) (show zget zprog2 229 = some mX8_heldBy from rfl) rfl (by decide) (by decide) (by decide) (by decide) (G := zyx362p) (fun _ h => absurd h List.not_mem_nil) zyx362e
/-! X8_oneOf -/
noncomputable def zyx363a : List zAV := [zyv320, zyv362, zyv363]
noncomputable def zyx363q : List (Option zAV × zH) := [(some (.inl ((.ofNat 0, .ofNat 0), none)), zyh551), (some (.inl ((.negSucc 175, .ofNat 79), none)), zyh552)]
noncomputable def zyx363d : zKw := (260, 3, 4, 480, zyx363a, zyh528, zyx363q)
set_option maxRecDepth 100000 in
theorem zyx363e : zrunw zprog2 (zovW []) 100000 zcut0 4 480 kX8_oneOf (zkinL zyx363q) 0 (zargs 0 zyx363a, [], (zyh528.1, zyh528.2.1, 0), 0, 0) = true := by decide +kernel
theorem zyx363 {l : Launch} {D : va_G} {tys : List (ClassId × FieldType)} {o : zO} {z : Nat} (E : zEnv tys) : zKnW l D vwCl tys o z (zXX o z) zTs zprog2 zyx363d :=
  zkn_ml E (fun g => fun _ h => absurd h List.not_mem_nil) (show zget zprog2 260 = some mX8_oneOf from rfl) rfl (by decide) (by decide) (by decide) (by decide) zyx363e
/-! X8_number -/
noncomputable def zyx364a : List zAV := [.inr (.inr (.inl 94)), .inl ((.ofNat 3, .ofNat 3), none)]
def zyx364r : Option zAV := some (.inl ((.negSucc 2147483647, .ofNat 2147483647), none))
noncomputable def zyx364p : List zPw := [((11, ([(0, .inr (.inr (.inl 94))), (1, .inl ((.ofNat 3, .ofNat 3), some (1, .ofNat 0))), (2, .inl ((.negSucc 2147483647, .ofNat 2147483647), some (2, .ofNat 0))), (3, .inl ((.ofNat 1, .ofNat 3), some (3, .ofNat 0)))], [], zyh553, 0, 0), [(3, .negSucc 1)], .ofNat 7), (zyx364r, zyh553), 5, 600)]
noncomputable def zyx364d : zKw := (259, 4, 5, 600, zyx364a, zyh528, [(zyx364r, zyh553)])
set_option maxRecDepth 100000 in
theorem zyx364c : zchkX [] zprog2 (zovW [zyx363d]) 100000 kX8_number [] zyx364p zyx364p = true := by decide +kernel
set_option maxRecDepth 100000 in
theorem zyx364e : zrunw zprog2 (zovW [zyx363d]) 100000 (zcutW [] none ((zyx364r, zyh553), 5, 600) zyx364p) 5 600 kX8_number (zkin zyx364r zyh553) 0 (zargs 0 zyx364a, [], (zyh528.1, zyh528.2.1, 0), 0, 0) = true := by decide +kernel
theorem zyx364 {l : Launch} {D : va_G} {tys : List (ClassId × FieldType)} {o : zO} {z : Nat} (E : zEnv tys) : zKnW l D vwCl tys o z (zXX o z) zTs zprog2 zyx364d :=
  zkn_mk E (fun g => List.forall_mem_cons.mpr ⟨zyx363 (o := zwith o g) E, fun _ h => absurd h List.not_mem_nil⟩) (show zget zprog2 259 = some mX8_number from rfl) rfl (by decide) (by decide) (by decide) (by decide) (G := zyx364p) (zkn_pt E (fun g => List.forall_mem_cons.mpr ⟨zyx363 (o := zwith o g) E, fun _ h => absurd h List.not_mem_nil⟩) (show zget zprog2 259 = some mX8_number from rfl) (fun _ h => absurd h List.not_mem_nil) zyx364c) zyx364e
/-! X8_thing -/
noncomputable def zyx365a : List zAV := [.inr (.inr (.inl 94)), .inl ((.ofNat 0, .ofNat 4), none)]
def zyx365r : Option zAV := some (.inl ((.negSucc 2147483647, .ofNat 2147483647), none))
noncomputable def zyx365p : List zPw := []
noncomputable def zyx365d : zKw := (292, 4, 20, 2460, zyx365a, zyh528, [(zyx365r, zyh553)])
set_option maxRecDepth 100000 in
theorem zyx365e : zrunw zprog2 (zovW [zyx364d, zyx362d, zyx359d, zyx336d, zyx337d]) 100000 (zcutW [] none ((zyx365r, zyh553), 20, 2460) zyx365p) 20 2460 k2X8_thing (zkin zyx365r zyh553) 0 (zargs 0 zyx365a, [], (zyh528.1, zyh528.2.1, 0), 0, 0) = true := by decide +kernel
theorem zyx365 {l : Launch} {D : va_G} {tys : List (ClassId × FieldType)} {o : zO} {z : Nat} (E : zEnv tys) : zKnW l D vwCl tys o z (zXX o z) zTs zprog2 zyx365d :=
  zkn_mk E (fun g => List.forall_mem_cons.mpr ⟨zyx364 (o := zwith o g) E, List.forall_mem_cons.mpr ⟨zyx362 (o := zwith o g) E, List.forall_mem_cons.mpr ⟨zyx359 (o := zwith o g) E, List.forall_mem_cons.mpr ⟨zyx336 (o := zwith o g) E, List.forall_mem_cons.mpr ⟨zyx337 (o := zwith o g) E, fun _ h => absurd h List.not_mem_nil⟩⟩⟩⟩⟩) (show zget zprog2 292 = some m2X8_thing from rfl) rfl (by decide) (by decide) (by decide) (by decide) (G := zyx365p) (fun _ h => absurd h List.not_mem_nil) zyx365e
/-! X8_product ((('r', 102), 40, 36),) -/
noncomputable def zyx366a : List zAV := [.inr (.inr (.inl 94)), .inl ((.ofNat 0, .ofNat 4), none)]
def zyx366r : Option zAV := some (.inl ((.negSucc 2147483647, .ofNat 2147483647), none))
noncomputable def zyx366q : zPw := ((6, ([(0, .inr (.inr (.inl 94))), (1, .inl ((.ofNat 0, .ofNat 4), some (1, .ofNat 0))), (2, .inl ((.negSucc 2147483647, .ofNat 2147483647), some (2, .ofNat 0)))], [], zyh553, 0, 0), [], 0), (zyx366r, zyh553), 21, 2580)
set_option maxRecDepth 100000 in
theorem zyx366c : zchkX [(94, 15)] zprog2 (zovW [zyx365d, zyx359d]) 100000 k2X8_product [zyx360q, zyx354q, zyx348q, zyx342q] [zyx366q] [zyx366q] = true := by decide +kernel
theorem zyx366k {l : Launch} {D : va_G} {tys : List (ClassId × FieldType)} {o : zO} {z : Nat} (E : zEnv tys) : zPtOk l D vwCl tys o z (zXX o z) zTs m2X8_product zyx366q := zkn_pt E (fun g => List.forall_mem_cons.mpr ⟨zyx365 (o := zwith o g) E, List.forall_mem_cons.mpr ⟨zyx359 (o := zwith o g) E, fun _ h => absurd h List.not_mem_nil⟩⟩) (show zget zprog2 265 = some m2X8_product from rfl) (List.forall_mem_cons.mpr ⟨zyx360k E, List.forall_mem_cons.mpr ⟨zyx354k E, List.forall_mem_cons.mpr ⟨zyx348k E, List.forall_mem_cons.mpr ⟨zyx342k E, fun _ h => absurd h List.not_mem_nil⟩⟩⟩⟩) zyx366c _ List.mem_cons_self
noncomputable def zyx366d : zKw := (265, 5, 21, 2580, zyx366a, zyh528, [(zyx366r, zyh553)])
set_option maxRecDepth 100000 in
theorem zyx366e : zrunw zprog2 (zovW [zyx365d, zyx359d]) 100000 (zcutW [(94, 15)] none ((zyx366r, zyh553), 21, 2580) [zyx366q, zyx360q, zyx354q, zyx348q, zyx342q]) 21 2580 k2X8_product (zkin zyx366r zyh553) 0 (zargs 0 zyx366a, [], (zyh528.1, zyh528.2.1, 0), 0, 0) = true := by decide +kernel
theorem zyx366 {l : Launch} {D : va_G} {tys : List (ClassId × FieldType)} {o : zO} {z : Nat} (E : zEnv tys) : zKnW l D vwCl tys o z (zXX o z) zTs zprog2 zyx366d :=
  zkn_mk E (fun g => List.forall_mem_cons.mpr ⟨zyx365 (o := zwith o g) E, List.forall_mem_cons.mpr ⟨zyx359 (o := zwith o g) E, fun _ h => absurd h List.not_mem_nil⟩⟩) (show zget zprog2 265 = some m2X8_product from rfl) rfl (by decide) (by decide) (by decide) (by decide) (G := [zyx366q, zyx360q, zyx354q, zyx348q, zyx342q]) (List.forall_mem_cons.mpr ⟨zyx366k E, List.forall_mem_cons.mpr ⟨zyx360k E, List.forall_mem_cons.mpr ⟨zyx354k E, List.forall_mem_cons.mpr ⟨zyx348k E, List.forall_mem_cons.mpr ⟨zyx342k E, fun _ h => absurd h List.not_mem_nil⟩⟩⟩⟩⟩) zyx366e
/-! X8_sum ((('r', 102), 40, 36),) -/
noncomputable def zyx367a : List zAV := [.inr (.inr (.inl 94)), .inl ((.ofNat 1, .ofNat 4), none)]
def zyx367r : Option zAV := some (.inl ((.negSucc 2147483647, .ofNat 2147483647), none))
noncomputable def zyx367q : zPw := ((6, ([(0, .inr (.inr (.inl 94))), (1, .inl ((.ofNat 0, .ofNat 4), some (1, .ofNat 0))), (2, .inl ((.negSucc 2147483647, .ofNat 2147483647), some (2, .ofNat 0)))], [], zyh553, 0, 0), [], 0), (zyx367r, zyh553), 22, 2700)
set_option maxRecDepth 100000 in
theorem zyx367c : zchkX [(94, 15)] zprog2 (zovW [zyx366d, zyx360d]) 100000 kX8_sum [zyx361q, zyx355q, zyx349q, zyx343q] [zyx367q] [zyx367q] = true := by decide +kernel
theorem zyx367k {l : Launch} {D : va_G} {tys : List (ClassId × FieldType)} {o : zO} {z : Nat} (E : zEnv tys) : zPtOk l D vwCl tys o z (zXX o z) zTs mX8_sum zyx367q := zkn_pt E (fun g => List.forall_mem_cons.mpr ⟨zyx366 (o := zwith o g) E, List.forall_mem_cons.mpr ⟨zyx360 (o := zwith o g) E, fun _ h => absurd h List.not_mem_nil⟩⟩) (show zget zprog2 284 = some mX8_sum from rfl) (List.forall_mem_cons.mpr ⟨zyx361k E, List.forall_mem_cons.mpr ⟨zyx355k E, List.forall_mem_cons.mpr ⟨zyx349k E, List.forall_mem_cons.mpr ⟨zyx343k E, fun _ h => absurd h List.not_mem_nil⟩⟩⟩⟩) zyx367c _ List.mem_cons_self
noncomputable def zyx367d : zKw := (284, 5, 22, 2700, zyx367a, zyh528, [(zyx367r, zyh553)])
set_option maxRecDepth 100000 in
theorem zyx367e : zrunw zprog2 (zovW [zyx366d, zyx360d]) 100000 (zcutW [(94, 15)] none ((zyx367r, zyh553), 22, 2700) [zyx367q, zyx361q, zyx355q, zyx349q, zyx343q]) 22 2700 kX8_sum (zkin zyx367r zyh553) 0 (zargs 0 zyx367a, [], (zyh528.1, zyh528.2.1, 0), 0, 0) = true := by decide +kernel
theorem zyx367 {l : Launch} {D : va_G} {tys : List (ClassId × FieldType)} {o : zO} {z : Nat} (E : zEnv tys) : zKnW l D vwCl tys o z (zXX o z) zTs zprog2 zyx367d :=
  zkn_mk E (fun g => List.forall_mem_cons.mpr ⟨zyx366 (o := zwith o g) E, List.forall_mem_cons.mpr ⟨zyx360 (o := zwith o g) E, fun _ h => absurd h List.not_mem_nil⟩⟩) (show zget zprog2 284 = some mX8_sum from rfl) rfl (by decide) (by decide) (by decide) (by decide) (G := [zyx367q, zyx361q, zyx355q, zyx349q, zyx343q]) (List.forall_mem_cons.mpr ⟨zyx367k E, List.forall_mem_cons.mpr ⟨zyx361k E, List.forall_mem_cons.mpr ⟨zyx355k E, List.forall_mem_cons.mpr ⟨zyx349k E, List.forall_mem_cons.mpr ⟨zyx343k E, fun _ h => absurd h List.not_mem_nil⟩⟩⟩⟩⟩) zyx367e
/-! X8_heldBy -/
noncomputable def zyx368a : List zAV := [.inr (.inr (.inl 94)), .inl ((.ofNat 1, .ofNat 4), none)]
def zyx368r : Option zAV := some (.inl ((.negSucc 2147483647, .ofNat 2147483647), none))
noncomputable def zyx368p : List zPw := []
noncomputable def zyx368d : zKw := (229, 3, 23, 2820, zyx368a, zyh528, [(zyx368r, zyh553)])
set_option maxRecDepth 100000 in
theorem zyx368e : zrunw zprog2 (zovW [zyx367d, zyx361d, zyx336d]) 100000 (zcutW [] none ((zyx368r, zyh553), 23, 2820) zyx368p) 23 2820 kX8_heldBy (zkin zyx368r zyh553) 0 (zargs 0 zyx368a, [], (zyh528.1, zyh528.2.1, 0), 0, 0) = true := by decide +kernel
theorem zyx368 {l : Launch} {D : va_G} {tys : List (ClassId × FieldType)} {o : zO} {z : Nat} (E : zEnv tys) : zKnW l D vwCl tys o z (zXX o z) zTs zprog2 zyx368d :=
  zkn_mk E (fun g => List.forall_mem_cons.mpr ⟨zyx367 (o := zwith o g) E, List.forall_mem_cons.mpr ⟨zyx361 (o := zwith o g) E, List.forall_mem_cons.mpr ⟨zyx336 (o := zwith o g) E, fun _ h => absurd h List.not_mem_nil⟩⟩⟩) (show zget zprog2 229 = some mX8_heldBy from rfl) rfl (by decide) (by decide) (by decide) (by decide) (G := zyx368p) (fun _ h => absurd h List.not_mem_nil) zyx368e
/-! X8_oneOf -/
noncomputable def zyx369a : List zAV := [zyv320, zyv362, zyv363]
noncomputable def zyx369q : List (Option zAV × zH) := [(some (.inl ((.ofNat 0, .ofNat 0), none)), zyh554), (some (.inl ((.negSucc 175, .ofNat 79), none)), zyh555)]
noncomputable def zyx369d : zKw := (260, 3, 4, 480, zyx369a, zyh525, zyx369q)
set_option maxRecDepth 100000 in
theorem zyx369e : zrunw zprog2 (zovW []) 100000 zcut0 4 480 kX8_oneOf (zkinL zyx369q) 0 (zargs 0 zyx369a, [], (zyh525.1, zyh525.2.1, 0), 0, 0) = true := by decide +kernel
theorem zyx369 {l : Launch} {D : va_G} {tys : List (ClassId × FieldType)} {o : zO} {z : Nat} (E : zEnv tys) : zKnW l D vwCl tys o z (zXX o z) zTs zprog2 zyx369d :=
  zkn_ml E (fun g => fun _ h => absurd h List.not_mem_nil) (show zget zprog2 260 = some mX8_oneOf from rfl) rfl (by decide) (by decide) (by decide) (by decide) zyx369e
/-! X8_number -/
noncomputable def zyx370a : List zAV := [.inr (.inr (.inl 94)), .inl ((.ofNat 3, .ofNat 3), none)]
def zyx370r : Option zAV := some (.inl ((.negSucc 2147483647, .ofNat 2147483647), none))
noncomputable def zyx370p : List zPw := [((11, ([(0, .inr (.inr (.inl 94))), (1, .inl ((.ofNat 3, .ofNat 3), some (1, .ofNat 0))), (2, .inl ((.negSucc 2147483647, .ofNat 2147483647), some (2, .ofNat 0))), (3, .inl ((.ofNat 1, .ofNat 3), some (3, .ofNat 0)))], [], zyh556, 0, 0), [(3, .negSucc 1)], .ofNat 7), (zyx370r, zyh556), 5, 600)]
noncomputable def zyx370d : zKw := (259, 4, 5, 600, zyx370a, zyh525, [(zyx370r, zyh556)])
set_option maxRecDepth 100000 in
theorem zyx370c : zchkX [] zprog2 (zovW [zyx369d]) 100000 kX8_number [] zyx370p zyx370p = true := by decide +kernel
set_option maxRecDepth 100000 in
theorem zyx370e : zrunw zprog2 (zovW [zyx369d]) 100000 (zcutW [] none ((zyx370r, zyh556), 5, 600) zyx370p) 5 600 kX8_number (zkin zyx370r zyh556) 0 (zargs 0 zyx370a, [], (zyh525.1, zyh525.2.1, 0), 0, 0) = true := by decide +kernel
theorem zyx370 {l : Launch} {D : va_G} {tys : List (ClassId × FieldType)} {o : zO} {z : Nat} (E : zEnv tys) : zKnW l D vwCl tys o z (zXX o z) zTs zprog2 zyx370d :=
  zkn_mk E (fun g => List.forall_mem_cons.mpr ⟨zyx369 (o := zwith o g) E, fun _ h => absurd h List.not_mem_nil⟩) (show zget zprog2 259 = some mX8_number from rfl) rfl (by decide) (by decide) (by decide) (by decide) (G := zyx370p) (zkn_pt E (fun g => List.forall_mem_cons.mpr ⟨zyx369 (o := zwith o g) E, fun _ h => absurd h List.not_mem_nil⟩) (show zget zprog2 259 = some mX8_number from rfl) (fun _ h => absurd h List.not_mem_nil) zyx370c) zyx370e
/-! X8_thing -/
noncomputable def zyx371a : List zAV := [.inr (.inr (.inl 94)), .inl ((.ofNat 0, .ofNat 4), none)]
def zyx371r : Option zAV := some (.inl ((.negSucc 2147483647, .ofNat 2147483647), none))
noncomputable def zyx371p : List zPw := []
noncomputable def zyx371d : zKw := (292, 4, 24, 2940, zyx371a, zyh525, [(zyx371r, zyh556)])
set_option maxRecDepth 100000 in
theorem zyx371e : zrunw zprog2 (zovW [zyx370d, zyx368d, zyx365d, zyx335d, zyx336d]) 100000 (zcutW [] none ((zyx371r, zyh556), 24, 2940) zyx371p) 24 2940 k2X8_thing (zkin zyx371r zyh556) 0 (zargs 0 zyx371a, [], (zyh525.1, zyh525.2.1, 0), 0, 0) = true := by decide +kernel
theorem zyx371 {l : Launch} {D : va_G} {tys : List (ClassId × FieldType)} {o : zO} {z : Nat} (E : zEnv tys) : zKnW l D vwCl tys o z (zXX o z) zTs zprog2 zyx371d :=
  zkn_mk E (fun g => List.forall_mem_cons.mpr ⟨zyx370 (o := zwith o g) E, List.forall_mem_cons.mpr ⟨zyx368 (o := zwith o g) E, List.forall_mem_cons.mpr ⟨zyx365 (o := zwith o g) E, List.forall_mem_cons.mpr ⟨zyx335 (o := zwith o g) E, List.forall_mem_cons.mpr ⟨zyx336 (o := zwith o g) E, fun _ h => absurd h List.not_mem_nil⟩⟩⟩⟩⟩) (show zget zprog2 292 = some m2X8_thing from rfl) rfl (by decide) (by decide) (by decide) (by decide) (G := zyx371p) (fun _ h => absurd h List.not_mem_nil) zyx371e
/-! X8_product ((('r', 102), 40, 35),) -/
noncomputable def zyx372a : List zAV := [.inr (.inr (.inl 94)), .inl ((.ofNat 0, .ofNat 4), none)]
def zyx372r : Option zAV := some (.inl ((.negSucc 2147483647, .ofNat 2147483647), none))
noncomputable def zyx372q : zPw := ((6, ([(0, .inr (.inr (.inl 94))), (1, .inl ((.ofNat 0, .ofNat 4), some (1, .ofNat 0))), (2, .inl ((.negSucc 2147483647, .ofNat 2147483647), some (2, .ofNat 0)))], [], zyh556, 0, 0), [], 0), (zyx372r, zyh556), 25, 3060)
set_option maxRecDepth 100000 in
theorem zyx372c : zchkX [(94, 15)] zprog2 (zovW [zyx371d, zyx365d]) 100000 k2X8_product [zyx366q, zyx360q, zyx354q, zyx348q, zyx342q] [zyx372q] [zyx372q] = true := by decide +kernel
theorem zyx372k {l : Launch} {D : va_G} {tys : List (ClassId × FieldType)} {o : zO} {z : Nat} (E : zEnv tys) : zPtOk l D vwCl tys o z (zXX o z) zTs m2X8_product zyx372q := zkn_pt E (fun g => List.forall_mem_cons.mpr ⟨zyx371 (o := zwith o g) E, List.forall_mem_cons.mpr ⟨zyx365 (o := zwith o g) E, fun _ h => absurd h List.not_mem_nil⟩⟩) (show zget zprog2 265 = some m2X8_product from rfl) (List.forall_mem_cons.mpr ⟨zyx366k E, List.forall_mem_cons.mpr ⟨zyx360k E, List.forall_mem_cons.mpr ⟨zyx354k E, List.forall_mem_cons.mpr ⟨zyx348k E, List.forall_mem_cons.mpr ⟨zyx342k E, fun _ h => absurd h List.not_mem_nil⟩⟩⟩⟩⟩) zyx372c _ List.mem_cons_self
noncomputable def zyx372d : zKw := (265, 5, 25, 3060, zyx372a, zyh525, [(zyx372r, zyh556)])
set_option maxRecDepth 100000 in
theorem zyx372e : zrunw zprog2 (zovW [zyx371d, zyx365d]) 100000 (zcutW [(94, 15)] none ((zyx372r, zyh556), 25, 3060) [zyx372q, zyx366q, zyx360q, zyx354q, zyx348q, zyx342q]) 25 3060 k2X8_product (zkin zyx372r zyh556) 0 (zargs 0 zyx372a, [], (zyh525.1, zyh525.2.1, 0), 0, 0) = true := by decide +kernel
theorem zyx372 {l : Launch} {D : va_G} {tys : List (ClassId × FieldType)} {o : zO} {z : Nat} (E : zEnv tys) : zKnW l D vwCl tys o z (zXX o z) zTs zprog2 zyx372d :=
  zkn_mk E (fun g => List.forall_mem_cons.mpr ⟨zyx371 (o := zwith o g) E, List.forall_mem_cons.mpr ⟨zyx365 (o := zwith o g) E, fun _ h => absurd h List.not_mem_nil⟩⟩) (show zget zprog2 265 = some m2X8_product from rfl) rfl (by decide) (by decide) (by decide) (by decide) (G := [zyx372q, zyx366q, zyx360q, zyx354q, zyx348q, zyx342q]) (List.forall_mem_cons.mpr ⟨zyx372k E, List.forall_mem_cons.mpr ⟨zyx366k E, List.forall_mem_cons.mpr ⟨zyx360k E, List.forall_mem_cons.mpr ⟨zyx354k E, List.forall_mem_cons.mpr ⟨zyx348k E, List.forall_mem_cons.mpr ⟨zyx342k E, fun _ h => absurd h List.not_mem_nil⟩⟩⟩⟩⟩⟩) zyx372e
/-! X8_sum ((('r', 102), 40, 35),) -/
noncomputable def zyx373a : List zAV := [.inr (.inr (.inl 94)), .inl ((.ofNat 1, .ofNat 4), none)]
def zyx373r : Option zAV := some (.inl ((.negSucc 2147483647, .ofNat 2147483647), none))
noncomputable def zyx373q : zPw := ((6, ([(0, .inr (.inr (.inl 94))), (1, .inl ((.ofNat 0, .ofNat 4), some (1, .ofNat 0))), (2, .inl ((.negSucc 2147483647, .ofNat 2147483647), some (2, .ofNat 0)))], [], zyh556, 0, 0), [], 0), (zyx373r, zyh556), 26, 3180)
set_option maxRecDepth 100000 in
theorem zyx373c : zchkX [(94, 15)] zprog2 (zovW [zyx372d, zyx366d]) 100000 kX8_sum [zyx367q, zyx361q, zyx355q, zyx349q, zyx343q] [zyx373q] [zyx373q] = true := by decide +kernel
theorem zyx373k {l : Launch} {D : va_G} {tys : List (ClassId × FieldType)} {o : zO} {z : Nat} (E : zEnv tys) : zPtOk l D vwCl tys o z (zXX o z) zTs mX8_sum zyx373q := zkn_pt E (fun g => List.forall_mem_cons.mpr ⟨zyx372 (o := zwith o g) E, List.forall_mem_cons.mpr ⟨zyx366 (o := zwith o g) E, fun _ h => absurd h List.not_mem_nil⟩⟩) (show zget zprog2 284 = some mX8_sum from rfl) (List.forall_mem_cons.mpr ⟨zyx367k E, List.forall_mem_cons.mpr ⟨zyx361k E, List.forall_mem_cons.mpr ⟨zyx355k E, List.forall_mem_cons.mpr ⟨zyx349k E, List.forall_mem_cons.mpr ⟨zyx343k E, fun _ h => absurd h List.not_mem_nil⟩⟩⟩⟩⟩) zyx373c _ List.mem_cons_self
noncomputable def zyx373d : zKw := (284, 5, 26, 3180, zyx373a, zyh525, [(zyx373r, zyh556)])
set_option maxRecDepth 100000 in
theorem zyx373e : zrunw zprog2 (zovW [zyx372d, zyx366d]) 100000 (zcutW [(94, 15)] none ((zyx373r, zyh556), 26, 3180) [zyx373q, zyx367q, zyx361q, zyx355q, zyx349q, zyx343q]) 26 3180 kX8_sum (zkin zyx373r zyh556) 0 (zargs 0 zyx373a, [], (zyh525.1, zyh525.2.1, 0), 0, 0) = true := by decide +kernel
theorem zyx373 {l : Launch} {D : va_G} {tys : List (ClassId × FieldType)} {o : zO} {z : Nat} (E : zEnv tys) : zKnW l D vwCl tys o z (zXX o z) zTs zprog2 zyx373d :=
  zkn_mk E (fun g => List.forall_mem_cons.mpr ⟨zyx372 (o := zwith o g) E, List.forall_mem_cons.mpr ⟨zyx366 (o := zwith o g) E, fun _ h => absurd h List.not_mem_nil⟩⟩) (show zget zprog2 284 = some mX8_sum from rfl) rfl (by decide) (by decide) (by decide) (by decide) (G := [zyx373q, zyx367q, zyx361q, zyx355q, zyx349q, zyx343q]) (List.forall_mem_cons.mpr ⟨zyx373k E, List.forall_mem_cons.mpr ⟨zyx367k E, List.forall_mem_cons.mpr ⟨zyx361k E, List.forall_mem_cons.mpr ⟨zyx355k E, List.forall_mem_cons.mpr ⟨zyx349k E, List.forall_mem_cons.mpr ⟨zyx343k E, fun _ h => absurd h List.not_mem_nil⟩⟩⟩⟩⟩⟩) zyx373e
/-! X8_heldBy -/
noncomputable def zyx374a : List zAV := [.inr (.inr (.inl 94)), .inl ((.ofNat 1, .ofNat 4), none)]
def zyx374r : Option zAV := some (.inl ((.negSucc 2147483647, .ofNat 2147483647), none))
noncomputable def zyx374p : List zPw := []
noncomputable def zyx374d : zKw := (229, 3, 27, 3300, zyx374a, zyh525, [(zyx374r, zyh556)])
set_option maxRecDepth 100000 in
theorem zyx374e : zrunw zprog2 (zovW [zyx373d, zyx367d, zyx335d]) 100000 (zcutW [] none ((zyx374r, zyh556), 27, 3300) zyx374p) 27 3300 kX8_heldBy (zkin zyx374r zyh556) 0 (zargs 0 zyx374a, [], (zyh525.1, zyh525.2.1, 0), 0, 0) = true := by decide +kernel
theorem zyx374 {l : Launch} {D : va_G} {tys : List (ClassId × FieldType)} {o : zO} {z : Nat} (E : zEnv tys) : zKnW l D vwCl tys o z (zXX o z) zTs zprog2 zyx374d :=
  zkn_mk E (fun g => List.forall_mem_cons.mpr ⟨zyx373 (o := zwith o g) E, List.forall_mem_cons.mpr ⟨zyx367 (o := zwith o g) E, List.forall_mem_cons.mpr ⟨zyx335 (o := zwith o g) E, fun _ h => absurd h List.not_mem_nil⟩⟩⟩) (show zget zprog2 229 = some mX8_heldBy from rfl) rfl (by decide) (by decide) (by decide) (by decide) (G := zyx374p) (fun _ h => absurd h List.not_mem_nil) zyx374e
/-! X8_oneOf -/
noncomputable def zyx375a : List zAV := [zyv320, zyv362, zyv363]
noncomputable def zyx375q : List (Option zAV × zH) := [(some (.inl ((.ofNat 0, .ofNat 0), none)), zyh557), (some (.inl ((.negSucc 175, .ofNat 79), none)), zyh558)]
noncomputable def zyx375d : zKw := (260, 3, 4, 480, zyx375a, zyh522, zyx375q)
set_option maxRecDepth 100000 in
theorem zyx375e : zrunw zprog2 (zovW []) 100000 zcut0 4 480 kX8_oneOf (zkinL zyx375q) 0 (zargs 0 zyx375a, [], (zyh522.1, zyh522.2.1, 0), 0, 0) = true := by decide +kernel
theorem zyx375 {l : Launch} {D : va_G} {tys : List (ClassId × FieldType)} {o : zO} {z : Nat} (E : zEnv tys) : zKnW l D vwCl tys o z (zXX o z) zTs zprog2 zyx375d :=
  zkn_ml E (fun g => fun _ h => absurd h List.not_mem_nil) (show zget zprog2 260 = some mX8_oneOf from rfl) rfl (by decide) (by decide) (by decide) (by decide) zyx375e
/-! X8_number -/
noncomputable def zyx376a : List zAV := [.inr (.inr (.inl 94)), .inl ((.ofNat 3, .ofNat 3), none)]
def zyx376r : Option zAV := some (.inl ((.negSucc 2147483647, .ofNat 2147483647), none))
noncomputable def zyx376p : List zPw := [((11, ([(0, .inr (.inr (.inl 94))), (1, .inl ((.ofNat 3, .ofNat 3), some (1, .ofNat 0))), (2, .inl ((.negSucc 2147483647, .ofNat 2147483647), some (2, .ofNat 0))), (3, .inl ((.ofNat 1, .ofNat 3), some (3, .ofNat 0)))], [], zyh559, 0, 0), [(3, .negSucc 1)], .ofNat 7), (zyx376r, zyh559), 5, 600)]
noncomputable def zyx376d : zKw := (259, 4, 5, 600, zyx376a, zyh522, [(zyx376r, zyh559)])
set_option maxRecDepth 100000 in
theorem zyx376c : zchkX [] zprog2 (zovW [zyx375d]) 100000 kX8_number [] zyx376p zyx376p = true := by decide +kernel
set_option maxRecDepth 100000 in
theorem zyx376e : zrunw zprog2 (zovW [zyx375d]) 100000 (zcutW [] none ((zyx376r, zyh559), 5, 600) zyx376p) 5 600 kX8_number (zkin zyx376r zyh559) 0 (zargs 0 zyx376a, [], (zyh522.1, zyh522.2.1, 0), 0, 0) = true := by decide +kernel
theorem zyx376 {l : Launch} {D : va_G} {tys : List (ClassId × FieldType)} {o : zO} {z : Nat} (E : zEnv tys) : zKnW l D vwCl tys o z (zXX o z) zTs zprog2 zyx376d :=
  zkn_mk E (fun g => List.forall_mem_cons.mpr ⟨zyx375 (o := zwith o g) E, fun _ h => absurd h List.not_mem_nil⟩) (show zget zprog2 259 = some mX8_number from rfl) rfl (by decide) (by decide) (by decide) (by decide) (G := zyx376p) (zkn_pt E (fun g => List.forall_mem_cons.mpr ⟨zyx375 (o := zwith o g) E, fun _ h => absurd h List.not_mem_nil⟩) (show zget zprog2 259 = some mX8_number from rfl) (fun _ h => absurd h List.not_mem_nil) zyx376c) zyx376e
/-! X8_thing -/
noncomputable def zyx377a : List zAV := [.inr (.inr (.inl 94)), .inl ((.ofNat 0, .ofNat 4), none)]
def zyx377r : Option zAV := some (.inl ((.negSucc 2147483647, .ofNat 2147483647), none))
noncomputable def zyx377p : List zPw := []
noncomputable def zyx377d : zKw := (292, 4, 28, 3420, zyx377a, zyh522, [(zyx377r, zyh559)])
set_option maxRecDepth 100000 in
theorem zyx377e : zrunw zprog2 (zovW [zyx376d, zyx374d, zyx371d, zyx334d, zyx335d]) 100000 (zcutW [] none ((zyx377r, zyh559), 28, 3420) zyx377p) 28 3420 k2X8_thing (zkin zyx377r zyh559) 0 (zargs 0 zyx377a, [], (zyh522.1, zyh522.2.1, 0), 0, 0) = true := by decide +kernel
theorem zyx377 {l : Launch} {D : va_G} {tys : List (ClassId × FieldType)} {o : zO} {z : Nat} (E : zEnv tys) : zKnW l D vwCl tys o z (zXX o z) zTs zprog2 zyx377d :=
  zkn_mk E (fun g => List.forall_mem_cons.mpr ⟨zyx376 (o := zwith o g) E, List.forall_mem_cons.mpr ⟨zyx374 (o := zwith o g) E, List.forall_mem_cons.mpr ⟨zyx371 (o := zwith o g) E, List.forall_mem_cons.mpr ⟨zyx334 (o := zwith o g) E, List.forall_mem_cons.mpr ⟨zyx335 (o := zwith o g) E, fun _ h => absurd h List.not_mem_nil⟩⟩⟩⟩⟩) (show zget zprog2 292 = some m2X8_thing from rfl) rfl (by decide) (by decide) (by decide) (by decide) (G := zyx377p) (fun _ h => absurd h List.not_mem_nil) zyx377e
/-! X8_product ((('r', 102), 40, 34),) -/
noncomputable def zyx378a : List zAV := [.inr (.inr (.inl 94)), .inl ((.ofNat 0, .ofNat 4), none)]
def zyx378r : Option zAV := some (.inl ((.negSucc 2147483647, .ofNat 2147483647), none))
noncomputable def zyx378q : zPw := ((6, ([(0, .inr (.inr (.inl 94))), (1, .inl ((.ofNat 0, .ofNat 4), some (1, .ofNat 0))), (2, .inl ((.negSucc 2147483647, .ofNat 2147483647), some (2, .ofNat 0)))], [], zyh559, 0, 0), [], 0), (zyx378r, zyh559), 29, 3540)
set_option maxRecDepth 100000 in
theorem zyx378c : zchkX [(94, 15)] zprog2 (zovW [zyx377d, zyx371d]) 100000 k2X8_product [zyx372q, zyx366q, zyx360q, zyx354q, zyx348q, zyx342q] [zyx378q] [zyx378q] = true := by decide +kernel
theorem zyx378k {l : Launch} {D : va_G} {tys : List (ClassId × FieldType)} {o : zO} {z : Nat} (E : zEnv tys) : zPtOk l D vwCl tys o z (zXX o z) zTs m2X8_product zyx378q := zkn_pt E (fun g => List.forall_mem_cons.mpr ⟨zyx377 (o := zwith o g) E, List.forall_mem_cons.mpr ⟨zyx371 (o := zwith o g) E, fun _ h => absurd h List.not_mem_nil⟩⟩) (show zget zprog2 265 = some m2X8_product from rfl) (List.forall_mem_cons.mpr ⟨zyx372k E, List.forall_mem_cons.mpr ⟨zyx366k E, List.forall_mem_cons.mpr ⟨zyx360k E, List.forall_mem_cons.mpr ⟨zyx354k E, List.forall_mem_cons.mpr ⟨zyx348k E, List.forall_mem_cons.mpr ⟨zyx342k E, fun _ h => absurd h List.not_mem_nil⟩⟩⟩⟩⟩⟩) zyx378c _ List.mem_cons_self
noncomputable def zyx378d : zKw := (265, 5, 29, 3540, zyx378a, zyh522, [(zyx378r, zyh559)])
set_option maxRecDepth 100000 in
theorem zyx378e : zrunw zprog2 (zovW [zyx377d, zyx371d]) 100000 (zcutW [(94, 15)] none ((zyx378r, zyh559), 29, 3540) [zyx378q, zyx372q, zyx366q, zyx360q, zyx354q, zyx348q, zyx342q]) 29 3540 k2X8_product (zkin zyx378r zyh559) 0 (zargs 0 zyx378a, [], (zyh522.1, zyh522.2.1, 0), 0, 0) = true := by decide +kernel
theorem zyx378 {l : Launch} {D : va_G} {tys : List (ClassId × FieldType)} {o : zO} {z : Nat} (E : zEnv tys) : zKnW l D vwCl tys o z (zXX o z) zTs zprog2 zyx378d :=
  zkn_mk E (fun g => List.forall_mem_cons.mpr ⟨zyx377 (o := zwith o g) E, List.forall_mem_cons.mpr ⟨zyx371 (o := zwith o g) E, fun _ h => absurd h List.not_mem_nil⟩⟩) (show zget zprog2 265 = some m2X8_product from rfl) rfl (by decide) (by decide) (by decide) (by decide) (G := [zyx378q, zyx372q, zyx366q, zyx360q, zyx354q, zyx348q, zyx342q]) (List.forall_mem_cons.mpr ⟨zyx378k E, List.forall_mem_cons.mpr ⟨zyx372k E, List.forall_mem_cons.mpr ⟨zyx366k E, List.forall_mem_cons.mpr ⟨zyx360k E, List.forall_mem_cons.mpr ⟨zyx354k E, List.forall_mem_cons.mpr ⟨zyx348k E, List.forall_mem_cons.mpr ⟨zyx342k E, fun _ h => absurd h List.not_mem_nil⟩⟩⟩⟩⟩⟩⟩) zyx378e
/-! X8_sum ((('r', 102), 40, 34),) -/
noncomputable def zyx379a : List zAV := [.inr (.inr (.inl 94)), .inl ((.ofNat 1, .ofNat 4), none)]
def zyx379r : Option zAV := some (.inl ((.negSucc 2147483647, .ofNat 2147483647), none))
noncomputable def zyx379q : zPw := ((6, ([(0, .inr (.inr (.inl 94))), (1, .inl ((.ofNat 0, .ofNat 4), some (1, .ofNat 0))), (2, .inl ((.negSucc 2147483647, .ofNat 2147483647), some (2, .ofNat 0)))], [], zyh559, 0, 0), [], 0), (zyx379r, zyh559), 30, 3660)
set_option maxRecDepth 100000 in
theorem zyx379c : zchkX [(94, 15)] zprog2 (zovW [zyx378d, zyx372d]) 100000 kX8_sum [zyx373q, zyx367q, zyx361q, zyx355q, zyx349q, zyx343q] [zyx379q] [zyx379q] = true := by decide +kernel
theorem zyx379k {l : Launch} {D : va_G} {tys : List (ClassId × FieldType)} {o : zO} {z : Nat} (E : zEnv tys) : zPtOk l D vwCl tys o z (zXX o z) zTs mX8_sum zyx379q := zkn_pt E (fun g => List.forall_mem_cons.mpr ⟨zyx378 (o := zwith o g) E, List.forall_mem_cons.mpr ⟨zyx372 (o := zwith o g) E, fun _ h => absurd h List.not_mem_nil⟩⟩) (show zget zprog2 284 = some mX8_sum from rfl) (List.forall_mem_cons.mpr ⟨zyx373k E, List.forall_mem_cons.mpr ⟨zyx367k E, List.forall_mem_cons.mpr ⟨zyx361k E, List.forall_mem_cons.mpr ⟨zyx355k E, List.forall_mem_cons.mpr ⟨zyx349k E, List.forall_mem_cons.mpr ⟨zyx343k E, fun _ h => absurd h List.not_mem_nil⟩⟩⟩⟩⟩⟩) zyx379c _ List.mem_cons_self
noncomputable def zyx379d : zKw := (284, 5, 30, 3660, zyx379a, zyh522, [(zyx379r, zyh559)])
set_option maxRecDepth 100000 in
theorem zyx379e : zrunw zprog2 (zovW [zyx378d, zyx372d]) 100000 (zcutW [(94, 15)] none ((zyx379r, zyh559), 30, 3660) [zyx379q, zyx373q, zyx367q, zyx361q, zyx355q, zyx349q, zyx343q]) 30 3660 kX8_sum (zkin zyx379r zyh559) 0 (zargs 0 zyx379a, [], (zyh522.1, zyh522.2.1, 0), 0, 0) = true := by decide +kernel
theorem zyx379 {l : Launch} {D : va_G} {tys : List (ClassId × FieldType)} {o : zO} {z : Nat} (E : zEnv tys) : zKnW l D vwCl tys o z (zXX o z) zTs zprog2 zyx379d :=
  zkn_mk E (fun g => List.forall_mem_cons.mpr ⟨zyx378 (o := zwith o g) E, List.forall_mem_cons.mpr ⟨zyx372 (o := zwith o g) E, fun _ h => absurd h List.not_mem_nil⟩⟩) (show zget zprog2 284 = some mX8_sum from rfl) rfl (by decide) (by decide) (by decide) (by decide) (G := [zyx379q, zyx373q, zyx367q, zyx361q, zyx355q, zyx349q, zyx343q]) (List.forall_mem_cons.mpr ⟨zyx379k E, List.forall_mem_cons.mpr ⟨zyx373k E, List.forall_mem_cons.mpr ⟨zyx367k E, List.forall_mem_cons.mpr ⟨zyx361k E, List.forall_mem_cons.mpr ⟨zyx355k E, List.forall_mem_cons.mpr ⟨zyx349k E, List.forall_mem_cons.mpr ⟨zyx343k E, fun _ h => absurd h List.not_mem_nil⟩⟩⟩⟩⟩⟩⟩) zyx379e
/-! X8_heldBy -/
noncomputable def zyx380a : List zAV := [.inr (.inr (.inl 94)), .inl ((.ofNat 1, .ofNat 4), none)]
def zyx380r : Option zAV := some (.inl ((.negSucc 2147483647, .ofNat 2147483647), none))
noncomputable def zyx380p : List zPw := []
noncomputable def zyx380d : zKw := (229, 3, 31, 3780, zyx380a, zyh522, [(zyx380r, zyh559)])
set_option maxRecDepth 100000 in
theorem zyx380e : zrunw zprog2 (zovW [zyx379d, zyx373d, zyx334d]) 100000 (zcutW [] none ((zyx380r, zyh559), 31, 3780) zyx380p) 31 3780 kX8_heldBy (zkin zyx380r zyh559) 0 (zargs 0 zyx380a, [], (zyh522.1, zyh522.2.1, 0), 0, 0) = true := by decide +kernel
theorem zyx380 {l : Launch} {D : va_G} {tys : List (ClassId × FieldType)} {o : zO} {z : Nat} (E : zEnv tys) : zKnW l D vwCl tys o z (zXX o z) zTs zprog2 zyx380d :=
  zkn_mk E (fun g => List.forall_mem_cons.mpr ⟨zyx379 (o := zwith o g) E, List.forall_mem_cons.mpr ⟨zyx373 (o := zwith o g) E, List.forall_mem_cons.mpr ⟨zyx334 (o := zwith o g) E, fun _ h => absurd h List.not_mem_nil⟩⟩⟩) (show zget zprog2 229 = some mX8_heldBy from rfl) rfl (by decide) (by decide) (by decide) (by decide) (G := zyx380p) (fun _ h => absurd h List.not_mem_nil) zyx380e
/-! X8_oneOf -/
noncomputable def zyx381a : List zAV := [zyv320, zyv362, zyv363]
noncomputable def zyx381q : List (Option zAV × zH) := [(some (.inl ((.ofNat 0, .ofNat 0), none)), zyh560), (some (.inl ((.negSucc 175, .ofNat 79), none)), zyh561)]
noncomputable def zyx381d : zKw := (260, 3, 4, 480, zyx381a, zyh519, zyx381q)
set_option maxRecDepth 100000 in
theorem zyx381e : zrunw zprog2 (zovW []) 100000 zcut0 4 480 kX8_oneOf (zkinL zyx381q) 0 (zargs 0 zyx381a, [], (zyh519.1, zyh519.2.1, 0), 0, 0) = true := by decide +kernel
theorem zyx381 {l : Launch} {D : va_G} {tys : List (ClassId × FieldType)} {o : zO} {z : Nat} (E : zEnv tys) : zKnW l D vwCl tys o z (zXX o z) zTs zprog2 zyx381d :=
  zkn_ml E (fun g => fun _ h => absurd h List.not_mem_nil) (show zget zprog2 260 = some mX8_oneOf from rfl) rfl (by decide) (by decide) (by decide) (by decide) zyx381e
/-! X8_number -/
noncomputable def zyx382a : List zAV := [.inr (.inr (.inl 94)), .inl ((.ofNat 3, .ofNat 3), none)]
def zyx382r : Option zAV := some (.inl ((.negSucc 2147483647, .ofNat 2147483647), none))
noncomputable def zyx382p : List zPw := [((11, ([(0, .inr (.inr (.inl 94))), (1, .inl ((.ofNat 3, .ofNat 3), some (1, .ofNat 0))), (2, .inl ((.negSucc 2147483647, .ofNat 2147483647), some (2, .ofNat 0))), (3, .inl ((.ofNat 1, .ofNat 3), some (3, .ofNat 0)))], [], zyh562, 0, 0), [(3, .negSucc 1)], .ofNat 7), (zyx382r, zyh562), 5, 600)]
noncomputable def zyx382d : zKw := (259, 4, 5, 600, zyx382a, zyh519, [(zyx382r, zyh562)])
set_option maxRecDepth 100000 in
theorem zyx382c : zchkX [] zprog2 (zovW [zyx381d]) 100000 kX8_number [] zyx382p zyx382p = true := by decide +kernel
set_option maxRecDepth 100000 in
theorem zyx382e : zrunw zprog2 (zovW [zyx381d]) 100000 (zcutW [] none ((zyx382r, zyh562), 5, 600) zyx382p) 5 600 kX8_number (zkin zyx382r zyh562) 0 (zargs 0 zyx382a, [], (zyh519.1, zyh519.2.1, 0), 0, 0) = true := by decide +kernel
theorem zyx382 {l : Launch} {D : va_G} {tys : List (ClassId × FieldType)} {o : zO} {z : Nat} (E : zEnv tys) : zKnW l D vwCl tys o z (zXX o z) zTs zprog2 zyx382d :=
  zkn_mk E (fun g => List.forall_mem_cons.mpr ⟨zyx381 (o := zwith o g) E, fun _ h => absurd h List.not_mem_nil⟩) (show zget zprog2 259 = some mX8_number from rfl) rfl (by decide) (by decide) (by decide) (by decide) (G := zyx382p) (zkn_pt E (fun g => List.forall_mem_cons.mpr ⟨zyx381 (o := zwith o g) E, fun _ h => absurd h List.not_mem_nil⟩) (show zget zprog2 259 = some mX8_number from rfl) (fun _ h => absurd h List.not_mem_nil) zyx382c) zyx382e
/-! X8_thing -/
noncomputable def zyx383a : List zAV := [.inr (.inr (.inl 94)), .inl ((.ofNat 0, .ofNat 4), none)]
def zyx383r : Option zAV := some (.inl ((.negSucc 2147483647, .ofNat 2147483647), none))
noncomputable def zyx383p : List zPw := []
noncomputable def zyx383d : zKw := (292, 4, 32, 3900, zyx383a, zyh519, [(zyx383r, zyh562)])
set_option maxRecDepth 100000 in
theorem zyx383e : zrunw zprog2 (zovW [zyx382d, zyx380d, zyx377d, zyx333d, zyx334d]) 100000 (zcutW [] none ((zyx383r, zyh562), 32, 3900) zyx383p) 32 3900 k2X8_thing (zkin zyx383r zyh562) 0 (zargs 0 zyx383a, [], (zyh519.1, zyh519.2.1, 0), 0, 0) = true := by decide +kernel
theorem zyx383 {l : Launch} {D : va_G} {tys : List (ClassId × FieldType)} {o : zO} {z : Nat} (E : zEnv tys) : zKnW l D vwCl tys o z (zXX o z) zTs zprog2 zyx383d :=
  zkn_mk E (fun g => List.forall_mem_cons.mpr ⟨zyx382 (o := zwith o g) E, List.forall_mem_cons.mpr ⟨zyx380 (o := zwith o g) E, List.forall_mem_cons.mpr ⟨zyx377 (o := zwith o g) E, List.forall_mem_cons.mpr ⟨zyx333 (o := zwith o g) E, List.forall_mem_cons.mpr ⟨zyx334 (o := zwith o g) E, fun _ h => absurd h List.not_mem_nil⟩⟩⟩⟩⟩) (show zget zprog2 292 = some m2X8_thing from rfl) rfl (by decide) (by decide) (by decide) (by decide) (G := zyx383p) (fun _ h => absurd h List.not_mem_nil) zyx383e
/-! X8_product ((('r', 102), 40, 33),) -/
noncomputable def zyx384a : List zAV := [.inr (.inr (.inl 94)), .inl ((.ofNat 0, .ofNat 4), none)]
def zyx384r : Option zAV := some (.inl ((.negSucc 2147483647, .ofNat 2147483647), none))
noncomputable def zyx384q : zPw := ((6, ([(0, .inr (.inr (.inl 94))), (1, .inl ((.ofNat 0, .ofNat 4), some (1, .ofNat 0))), (2, .inl ((.negSucc 2147483647, .ofNat 2147483647), some (2, .ofNat 0)))], [], zyh562, 0, 0), [], 0), (zyx384r, zyh562), 33, 4020)
set_option maxRecDepth 100000 in
theorem zyx384c : zchkX [(94, 15)] zprog2 (zovW [zyx383d, zyx377d]) 100000 k2X8_product [zyx378q, zyx372q, zyx366q, zyx360q, zyx354q, zyx348q, zyx342q] [zyx384q] [zyx384q] = true := by decide +kernel
theorem zyx384k {l : Launch} {D : va_G} {tys : List (ClassId × FieldType)} {o : zO} {z : Nat} (E : zEnv tys) : zPtOk l D vwCl tys o z (zXX o z) zTs m2X8_product zyx384q := zkn_pt E (fun g => List.forall_mem_cons.mpr ⟨zyx383 (o := zwith o g) E, List.forall_mem_cons.mpr ⟨zyx377 (o := zwith o g) E, fun _ h => absurd h List.not_mem_nil⟩⟩) (show zget zprog2 265 = some m2X8_product from rfl) (List.forall_mem_cons.mpr ⟨zyx378k E, List.forall_mem_cons.mpr ⟨zyx372k E, List.forall_mem_cons.mpr ⟨zyx366k E, List.forall_mem_cons.mpr ⟨zyx360k E, List.forall_mem_cons.mpr ⟨zyx354k E, List.forall_mem_cons.mpr ⟨zyx348k E, List.forall_mem_cons.mpr ⟨zyx342k E, fun _ h => absurd h List.not_mem_nil⟩⟩⟩⟩⟩⟩⟩) zyx384c _ List.mem_cons_self
noncomputable def zyx384d : zKw := (265, 5, 33, 4020, zyx384a, zyh519, [(zyx384r, zyh562)])
set_option maxRecDepth 100000 in
theorem zyx384e : zrunw zprog2 (zovW [zyx383d, zyx377d]) 100000 (zcutW [(94, 15)] none ((zyx384r, zyh562), 33, 4020) [zyx384q, zyx378q, zyx372q, zyx366q, zyx360q, zyx354q, zyx348q, zyx342q]) 33 4020 k2X8_product (zkin zyx384r zyh562) 0 (zargs 0 zyx384a, [], (zyh519.1, zyh519.2.1, 0), 0, 0) = true := by decide +kernel
theorem zyx384 {l : Launch} {D : va_G} {tys : List (ClassId × FieldType)} {o : zO} {z : Nat} (E : zEnv tys) : zKnW l D vwCl tys o z (zXX o z) zTs zprog2 zyx384d :=
  zkn_mk E (fun g => List.forall_mem_cons.mpr ⟨zyx383 (o := zwith o g) E, List.forall_mem_cons.mpr ⟨zyx377 (o := zwith o g) E, fun _ h => absurd h List.not_mem_nil⟩⟩) (show zget zprog2 265 = some m2X8_product from rfl) rfl (by decide) (by decide) (by decide) (by decide) (G := [zyx384q, zyx378q, zyx372q, zyx366q, zyx360q, zyx354q, zyx348q, zyx342q]) (List.forall_mem_cons.mpr ⟨zyx384k E, List.forall_mem_cons.mpr ⟨zyx378k E, List.forall_mem_cons.mpr ⟨zyx372k E, List.forall_mem_cons.mpr ⟨zyx366k E, List.forall_mem_cons.mpr ⟨zyx360k E, List.forall_mem_cons.mpr ⟨zyx354k E, List.forall_mem_cons.mpr ⟨zyx348k E, List.forall_mem_cons.mpr ⟨zyx342k E, fun _ h => absurd h List.not_mem_nil⟩⟩⟩⟩⟩⟩⟩⟩) zyx384e
/-! X8_sum ((('r', 102), 40, 33),) -/
noncomputable def zyx385a : List zAV := [.inr (.inr (.inl 94)), .inl ((.ofNat 1, .ofNat 4), none)]
def zyx385r : Option zAV := some (.inl ((.negSucc 2147483647, .ofNat 2147483647), none))
noncomputable def zyx385q : zPw := ((6, ([(0, .inr (.inr (.inl 94))), (1, .inl ((.ofNat 0, .ofNat 4), some (1, .ofNat 0))), (2, .inl ((.negSucc 2147483647, .ofNat 2147483647), some (2, .ofNat 0)))], [], zyh562, 0, 0), [], 0), (zyx385r, zyh562), 34, 4140)
set_option maxRecDepth 100000 in
theorem zyx385c : zchkX [(94, 15)] zprog2 (zovW [zyx384d, zyx378d]) 100000 kX8_sum [zyx379q, zyx373q, zyx367q, zyx361q, zyx355q, zyx349q, zyx343q] [zyx385q] [zyx385q] = true := by decide +kernel
theorem zyx385k {l : Launch} {D : va_G} {tys : List (ClassId × FieldType)} {o : zO} {z : Nat} (E : zEnv tys) : zPtOk l D vwCl tys o z (zXX o z) zTs mX8_sum zyx385q := zkn_pt E (fun g => List.forall_mem_cons.mpr ⟨zyx384 (o := zwith o g) E, List.forall_mem_cons.mpr ⟨zyx378 (o := zwith o g) E, fun _ h => absurd h List.not_mem_nil⟩⟩) (show zget zprog2 284 = some mX8_sum from rfl) (List.forall_mem_cons.mpr ⟨zyx379k E, List.forall_mem_cons.mpr ⟨zyx373k E, List.forall_mem_cons.mpr ⟨zyx367k E, List.forall_mem_cons.mpr ⟨zyx361k E, List.forall_mem_cons.mpr ⟨zyx355k E, List.forall_mem_cons.mpr ⟨zyx349k E, List.forall_mem_cons.mpr ⟨zyx343k E, fun _ h => absurd h List.not_mem_nil⟩⟩⟩⟩⟩⟩⟩) zyx385c _ List.mem_cons_self
noncomputable def zyx385d : zKw := (284, 5, 34, 4140, zyx385a, zyh519, [(zyx385r, zyh562)])
set_option maxRecDepth 100000 in
theorem zyx385e : zrunw zprog2 (zovW [zyx384d, zyx378d]) 100000 (zcutW [(94, 15)] none ((zyx385r, zyh562), 34, 4140) [zyx385q, zyx379q, zyx373q, zyx367q, zyx361q, zyx355q, zyx349q, zyx343q]) 34 4140 kX8_sum (zkin zyx385r zyh562) 0 (zargs 0 zyx385a, [], (zyh519.1, zyh519.2.1, 0), 0, 0) = true := by decide +kernel
theorem zyx385 {l : Launch} {D : va_G} {tys : List (ClassId × FieldType)} {o : zO} {z : Nat} (E : zEnv tys) : zKnW l D vwCl tys o z (zXX o z) zTs zprog2 zyx385d :=
  zkn_mk E (fun g => List.forall_mem_cons.mpr ⟨zyx384 (o := zwith o g) E, List.forall_mem_cons.mpr ⟨zyx378 (o := zwith o g) E, fun _ h => absurd h List.not_mem_nil⟩⟩) (show zget zprog2 284 = some mX8_sum from rfl) rfl (by decide) (by decide) (by decide) (by decide) (G := [zyx385q, zyx379q, zyx373q, zyx367q, zyx361q, zyx355q, zyx349q, zyx343q]) (List.forall_mem_cons.mpr ⟨zyx385k E, List.forall_mem_cons.mpr ⟨zyx379k E, List.forall_mem_cons.mpr ⟨zyx373k E, List.forall_mem_cons.mpr ⟨zyx367k E, List.forall_mem_cons.mpr ⟨zyx361k E, List.forall_mem_cons.mpr ⟨zyx355k E, List.forall_mem_cons.mpr ⟨zyx349k E, List.forall_mem_cons.mpr ⟨zyx343k E, fun _ h => absurd h List.not_mem_nil⟩⟩⟩⟩⟩⟩⟩⟩) zyx385e
/-! X8_heldBy -/
noncomputable def zyx386a : List zAV := [.inr (.inr (.inl 94)), .inl ((.ofNat 1, .ofNat 4), none)]
def zyx386r : Option zAV := some (.inl ((.negSucc 2147483647, .ofNat 2147483647), none))
noncomputable def zyx386p : List zPw := []
noncomputable def zyx386d : zKw := (229, 3, 35, 4260, zyx386a, zyh519, [(zyx386r, zyh562)])
set_option maxRecDepth 100000 in
theorem zyx386e : zrunw zprog2 (zovW [zyx385d, zyx379d, zyx333d]) 100000 (zcutW [] none ((zyx386r, zyh562), 35, 4260) zyx386p) 35 4260 kX8_heldBy (zkin zyx386r zyh562) 0 (zargs 0 zyx386a, [], (zyh519.1, zyh519.2.1, 0), 0, 0) = true := by decide +kernel
theorem zyx386 {l : Launch} {D : va_G} {tys : List (ClassId × FieldType)} {o : zO} {z : Nat} (E : zEnv tys) : zKnW l D vwCl tys o z (zXX o z) zTs zprog2 zyx386d :=
  zkn_mk E (fun g => List.forall_mem_cons.mpr ⟨zyx385 (o := zwith o g) E, List.forall_mem_cons.mpr ⟨zyx379 (o := zwith o g) E, List.forall_mem_cons.mpr ⟨zyx333 (o := zwith o g) E, fun _ h => absurd h List.not_mem_nil⟩⟩⟩) (show zget zprog2 229 = some mX8_heldBy from rfl) rfl (by decide) (by decide) (by decide) (by decide) (G := zyx386p) (fun _ h => absurd h List.not_mem_nil) zyx386e
/-! X8_oneOf -/
noncomputable def zyx387a : List zAV := [zyv320, zyv362, zyv363]
noncomputable def zyx387q : List (Option zAV × zH) := [(some (.inl ((.ofNat 0, .ofNat 0), none)), zyh563), (some (.inl ((.negSucc 175, .ofNat 79), none)), zyh564)]
noncomputable def zyx387d : zKw := (260, 3, 4, 480, zyx387a, zyh516, zyx387q)
set_option maxRecDepth 100000 in
theorem zyx387e : zrunw zprog2 (zovW []) 100000 zcut0 4 480 kX8_oneOf (zkinL zyx387q) 0 (zargs 0 zyx387a, [], (zyh516.1, zyh516.2.1, 0), 0, 0) = true := by decide +kernel
theorem zyx387 {l : Launch} {D : va_G} {tys : List (ClassId × FieldType)} {o : zO} {z : Nat} (E : zEnv tys) : zKnW l D vwCl tys o z (zXX o z) zTs zprog2 zyx387d :=
  zkn_ml E (fun g => fun _ h => absurd h List.not_mem_nil) (show zget zprog2 260 = some mX8_oneOf from rfl) rfl (by decide) (by decide) (by decide) (by decide) zyx387e
/-! X8_number -/
noncomputable def zyx388a : List zAV := [.inr (.inr (.inl 94)), .inl ((.ofNat 3, .ofNat 3), none)]
def zyx388r : Option zAV := some (.inl ((.negSucc 2147483647, .ofNat 2147483647), none))
noncomputable def zyx388p : List zPw := [((11, ([(0, .inr (.inr (.inl 94))), (1, .inl ((.ofNat 3, .ofNat 3), some (1, .ofNat 0))), (2, .inl ((.negSucc 2147483647, .ofNat 2147483647), some (2, .ofNat 0))), (3, .inl ((.ofNat 1, .ofNat 3), some (3, .ofNat 0)))], [], zyh565, 0, 0), [(3, .negSucc 1)], .ofNat 7), (zyx388r, zyh565), 5, 600)]
noncomputable def zyx388d : zKw := (259, 4, 5, 600, zyx388a, zyh516, [(zyx388r, zyh565)])
set_option maxRecDepth 100000 in
theorem zyx388c : zchkX [] zprog2 (zovW [zyx387d]) 100000 kX8_number [] zyx388p zyx388p = true := by decide +kernel
set_option maxRecDepth 100000 in
theorem zyx388e : zrunw zprog2 (zovW [zyx387d]) 100000 (zcutW [] none ((zyx388r, zyh565), 5, 600) zyx388p) 5 600 kX8_number (zkin zyx388r zyh565) 0 (zargs 0 zyx388a, [], (zyh516.1, zyh516.2.1, 0), 0, 0) = true := by decide +kernel
theorem zyx388 {l : Launch} {D : va_G} {tys : List (ClassId × FieldType)} {o : zO} {z : Nat} (E : zEnv tys) : zKnW l D vwCl tys o z (zXX o z) zTs zprog2 zyx388d :=
  zkn_mk E (fun g => List.forall_mem_cons.mpr ⟨zyx387 (o := zwith o g) E, fun _ h => absurd h List.not_mem_nil⟩) (show zget zprog2 259 = some mX8_number from rfl) rfl (by decide) (by decide) (by decide) (by decide) (G := zyx388p) (zkn_pt E (fun g => List.forall_mem_cons.mpr ⟨zyx387 (o := zwith o g) E, fun _ h => absurd h List.not_mem_nil⟩) (show zget zprog2 259 = some mX8_number from rfl) (fun _ h => absurd h List.not_mem_nil) zyx388c) zyx388e
/-! X8_thing -/
noncomputable def zyx389a : List zAV := [.inr (.inr (.inl 94)), .inl ((.ofNat 0, .ofNat 4), none)]
def zyx389r : Option zAV := some (.inl ((.negSucc 2147483647, .ofNat 2147483647), none))
noncomputable def zyx389p : List zPw := []
noncomputable def zyx389d : zKw := (292, 4, 36, 4380, zyx389a, zyh516, [(zyx389r, zyh565)])
set_option maxRecDepth 100000 in
theorem zyx389e : zrunw zprog2 (zovW [zyx388d, zyx386d, zyx383d, zyx332d, zyx333d]) 100000 (zcutW [] none ((zyx389r, zyh565), 36, 4380) zyx389p) 36 4380 k2X8_thing (zkin zyx389r zyh565) 0 (zargs 0 zyx389a, [], (zyh516.1, zyh516.2.1, 0), 0, 0) = true := by decide +kernel
theorem zyx389 {l : Launch} {D : va_G} {tys : List (ClassId × FieldType)} {o : zO} {z : Nat} (E : zEnv tys) : zKnW l D vwCl tys o z (zXX o z) zTs zprog2 zyx389d :=
  zkn_mk E (fun g => List.forall_mem_cons.mpr ⟨zyx388 (o := zwith o g) E, List.forall_mem_cons.mpr ⟨zyx386 (o := zwith o g) E, List.forall_mem_cons.mpr ⟨zyx383 (o := zwith o g) E, List.forall_mem_cons.mpr ⟨zyx332 (o := zwith o g) E, List.forall_mem_cons.mpr ⟨zyx333 (o := zwith o g) E, fun _ h => absurd h List.not_mem_nil⟩⟩⟩⟩⟩) (show zget zprog2 292 = some m2X8_thing from rfl) rfl (by decide) (by decide) (by decide) (by decide) (G := zyx389p) (fun _ h => absurd h List.not_mem_nil) zyx389e
/-! X8_product ((('r', 102), 40, 32),) -/
noncomputable def zyx390a : List zAV := [.inr (.inr (.inl 94)), .inl ((.ofNat 0, .ofNat 4), none)]
def zyx390r : Option zAV := some (.inl ((.negSucc 2147483647, .ofNat 2147483647), none))
noncomputable def zyx390q : zPw := ((6, ([(0, .inr (.inr (.inl 94))), (1, .inl ((.ofNat 0, .ofNat 4), some (1, .ofNat 0))), (2, .inl ((.negSucc 2147483647, .ofNat 2147483647), some (2, .ofNat 0)))], [], zyh565, 0, 0), [], 0), (zyx390r, zyh565), 37, 4500)
set_option maxRecDepth 100000 in
theorem zyx390c : zchkX [(94, 15)] zprog2 (zovW [zyx389d, zyx383d]) 100000 k2X8_product [zyx384q, zyx378q, zyx372q, zyx366q, zyx360q, zyx354q, zyx348q, zyx342q] [zyx390q] [zyx390q] = true := by decide +kernel
theorem zyx390k {l : Launch} {D : va_G} {tys : List (ClassId × FieldType)} {o : zO} {z : Nat} (E : zEnv tys) : zPtOk l D vwCl tys o z (zXX o z) zTs m2X8_product zyx390q := zkn_pt E (fun g => List.forall_mem_cons.mpr ⟨zyx389 (o := zwith o g) E, List.forall_mem_cons.mpr ⟨zyx383 (o := zwith o g) E, fun _ h => absurd h List.not_mem_nil⟩⟩) (show zget zprog2 265 = some m2X8_product from rfl) (List.forall_mem_cons.mpr ⟨zyx384k E, List.forall_mem_cons.mpr ⟨zyx378k E, List.forall_mem_cons.mpr ⟨zyx372k E, List.forall_mem_cons.mpr ⟨zyx366k E, List.forall_mem_cons.mpr ⟨zyx360k E, List.forall_mem_cons.mpr ⟨zyx354k E, List.forall_mem_cons.mpr ⟨zyx348k E, List.forall_mem_cons.mpr ⟨zyx342k E, fun _ h => absurd h List.not_mem_nil⟩⟩⟩⟩⟩⟩⟩⟩) zyx390c _ List.mem_cons_self
noncomputable def zyx390d : zKw := (265, 5, 37, 4500, zyx390a, zyh516, [(zyx390r, zyh565)])
set_option maxRecDepth 100000 in
theorem zyx390e : zrunw zprog2 (zovW [zyx389d, zyx383d]) 100000 (zcutW [(94, 15)] none ((zyx390r, zyh565), 37, 4500) [zyx390q, zyx384q, zyx378q, zyx372q, zyx366q, zyx360q, zyx354q, zyx348q, zyx342q]) 37 4500 k2X8_product (zkin zyx390r zyh565) 0 (zargs 0 zyx390a, [], (zyh516.1, zyh516.2.1, 0), 0, 0) = true := by decide +kernel
theorem zyx390 {l : Launch} {D : va_G} {tys : List (ClassId × FieldType)} {o : zO} {z : Nat} (E : zEnv tys) : zKnW l D vwCl tys o z (zXX o z) zTs zprog2 zyx390d :=
  zkn_mk E (fun g => List.forall_mem_cons.mpr ⟨zyx389 (o := zwith o g) E, List.forall_mem_cons.mpr ⟨zyx383 (o := zwith o g) E, fun _ h => absurd h List.not_mem_nil⟩⟩) (show zget zprog2 265 = some m2X8_product from rfl) rfl (by decide) (by decide) (by decide) (by decide) (G := [zyx390q, zyx384q, zyx378q, zyx372q, zyx366q, zyx360q, zyx354q, zyx348q, zyx342q]) (List.forall_mem_cons.mpr ⟨zyx390k E, List.forall_mem_cons.mpr ⟨zyx384k E, List.forall_mem_cons.mpr ⟨zyx378k E, List.forall_mem_cons.mpr ⟨zyx372k E, List.forall_mem_cons.mpr ⟨zyx366k E, List.forall_mem_cons.mpr ⟨zyx360k E, List.forall_mem_cons.mpr ⟨zyx354k E, List.forall_mem_cons.mpr ⟨zyx348k E, List.forall_mem_cons.mpr ⟨zyx342k E, fun _ h => absurd h List.not_mem_nil⟩⟩⟩⟩⟩⟩⟩⟩⟩) zyx390e
/-! X8_sum ((('r', 102), 40, 32),) -/
noncomputable def zyx391a : List zAV := [.inr (.inr (.inl 94)), .inl ((.ofNat 1, .ofNat 4), none)]
def zyx391r : Option zAV := some (.inl ((.negSucc 2147483647, .ofNat 2147483647), none))
noncomputable def zyx391q : zPw := ((6, ([(0, .inr (.inr (.inl 94))), (1, .inl ((.ofNat 0, .ofNat 4), some (1, .ofNat 0))), (2, .inl ((.negSucc 2147483647, .ofNat 2147483647), some (2, .ofNat 0)))], [], zyh565, 0, 0), [], 0), (zyx391r, zyh565), 38, 4620)
set_option maxRecDepth 100000 in
theorem zyx391c : zchkX [(94, 15)] zprog2 (zovW [zyx390d, zyx384d]) 100000 kX8_sum [zyx385q, zyx379q, zyx373q, zyx367q, zyx361q, zyx355q, zyx349q, zyx343q] [zyx391q] [zyx391q] = true := by decide +kernel
theorem zyx391k {l : Launch} {D : va_G} {tys : List (ClassId × FieldType)} {o : zO} {z : Nat} (E : zEnv tys) : zPtOk l D vwCl tys o z (zXX o z) zTs mX8_sum zyx391q := zkn_pt E (fun g => List.forall_mem_cons.mpr ⟨zyx390 (o := zwith o g) E, List.forall_mem_cons.mpr ⟨zyx384 (o := zwith o g) E, fun _ h => absurd h List.not_mem_nil⟩⟩) (show zget zprog2 284 = some mX8_sum from rfl) (List.forall_mem_cons.mpr ⟨zyx385k E, List.forall_mem_cons.mpr ⟨zyx379k E, List.forall_mem_cons.mpr ⟨zyx373k E, List.forall_mem_cons.mpr ⟨zyx367k E, List.forall_mem_cons.mpr ⟨zyx361k E, List.forall_mem_cons.mpr ⟨zyx355k E, List.forall_mem_cons.mpr ⟨zyx349k E, List.forall_mem_cons.mpr ⟨zyx343k E, fun _ h => absurd h List.not_mem_nil⟩⟩⟩⟩⟩⟩⟩⟩) zyx391c _ List.mem_cons_self
noncomputable def zyx391d : zKw := (284, 5, 38, 4620, zyx391a, zyh516, [(zyx391r, zyh565)])
set_option maxRecDepth 100000 in
theorem zyx391e : zrunw zprog2 (zovW [zyx390d, zyx384d]) 100000 (zcutW [(94, 15)] none ((zyx391r, zyh565), 38, 4620) [zyx391q, zyx385q, zyx379q, zyx373q, zyx367q, zyx361q, zyx355q, zyx349q, zyx343q]) 38 4620 kX8_sum (zkin zyx391r zyh565) 0 (zargs 0 zyx391a, [], (zyh516.1, zyh516.2.1, 0), 0, 0) = true := by decide +kernel
theorem zyx391 {l : Launch} {D : va_G} {tys : List (ClassId × FieldType)} {o : zO} {z : Nat} (E : zEnv tys) : zKnW l D vwCl tys o z (zXX o z) zTs zprog2 zyx391d :=
  zkn_mk E (fun g => List.forall_mem_cons.mpr ⟨zyx390 (o := zwith o g) E, List.forall_mem_cons.mpr ⟨zyx384 (o := zwith o g) E, fun _ h => absurd h List.not_mem_nil⟩⟩) (show zget zprog2 284 = some mX8_sum from rfl) rfl (by decide) (by decide) (by decide) (by decide) (G := [zyx391q, zyx385q, zyx379q, zyx373q, zyx367q, zyx361q, zyx355q, zyx349q, zyx343q]) (List.forall_mem_cons.mpr ⟨zyx391k E, List.forall_mem_cons.mpr ⟨zyx385k E, List.forall_mem_cons.mpr ⟨zyx379k E, List.forall_mem_cons.mpr ⟨zyx373k E, List.forall_mem_cons.mpr ⟨zyx367k E, List.forall_mem_cons.mpr ⟨zyx361k E, List.forall_mem_cons.mpr ⟨zyx355k E, List.forall_mem_cons.mpr ⟨zyx349k E, List.forall_mem_cons.mpr ⟨zyx343k E, fun _ h => absurd h List.not_mem_nil⟩⟩⟩⟩⟩⟩⟩⟩⟩) zyx391e
/-! X8_heldBy -/
noncomputable def zyx392a : List zAV := [.inr (.inr (.inl 94)), .inl ((.ofNat 1, .ofNat 4), none)]
def zyx392r : Option zAV := some (.inl ((.negSucc 2147483647, .ofNat 2147483647), none))
noncomputable def zyx392p : List zPw := []
noncomputable def zyx392d : zKw := (229, 3, 39, 4740, zyx392a, zyh516, [(zyx392r, zyh565)])
set_option maxRecDepth 100000 in
theorem zyx392e : zrunw zprog2 (zovW [zyx391d, zyx385d, zyx332d]) 100000 (zcutW [] none ((zyx392r, zyh565), 39, 4740) zyx392p) 39 4740 kX8_heldBy (zkin zyx392r zyh565) 0 (zargs 0 zyx392a, [], (zyh516.1, zyh516.2.1, 0), 0, 0) = true := by decide +kernel
theorem zyx392 {l : Launch} {D : va_G} {tys : List (ClassId × FieldType)} {o : zO} {z : Nat} (E : zEnv tys) : zKnW l D vwCl tys o z (zXX o z) zTs zprog2 zyx392d :=
  zkn_mk E (fun g => List.forall_mem_cons.mpr ⟨zyx391 (o := zwith o g) E, List.forall_mem_cons.mpr ⟨zyx385 (o := zwith o g) E, List.forall_mem_cons.mpr ⟨zyx332 (o := zwith o g) E, fun _ h => absurd h List.not_mem_nil⟩⟩⟩) (show zget zprog2 229 = some mX8_heldBy from rfl) rfl (by decide) (by decide) (by decide) (by decide) (G := zyx392p) (fun _ h => absurd h List.not_mem_nil) zyx392e
/-! X8_oneOf -/
noncomputable def zyx393a : List zAV := [zyv320, zyv362, zyv363]
noncomputable def zyx393q : List (Option zAV × zH) := [(some (.inl ((.ofNat 0, .ofNat 0), none)), zyh566), (some (.inl ((.negSucc 175, .ofNat 79), none)), zyh567)]
noncomputable def zyx393d : zKw := (260, 3, 4, 480, zyx393a, zyh513, zyx393q)
set_option maxRecDepth 100000 in
theorem zyx393e : zrunw zprog2 (zovW []) 100000 zcut0 4 480 kX8_oneOf (zkinL zyx393q) 0 (zargs 0 zyx393a, [], (zyh513.1, zyh513.2.1, 0), 0, 0) = true := by decide +kernel
theorem zyx393 {l : Launch} {D : va_G} {tys : List (ClassId × FieldType)} {o : zO} {z : Nat} (E : zEnv tys) : zKnW l D vwCl tys o z (zXX o z) zTs zprog2 zyx393d :=
  zkn_ml E (fun g => fun _ h => absurd h List.not_mem_nil) (show zget zprog2 260 = some mX8_oneOf from rfl) rfl (by decide) (by decide) (by decide) (by decide) zyx393e
/-! X8_number -/
noncomputable def zyx394a : List zAV := [.inr (.inr (.inl 94)), .inl ((.ofNat 3, .ofNat 3), none)]
def zyx394r : Option zAV := some (.inl ((.negSucc 2147483647, .ofNat 2147483647), none))
noncomputable def zyx394p : List zPw := [((11, ([(0, .inr (.inr (.inl 94))), (1, .inl ((.ofNat 3, .ofNat 3), some (1, .ofNat 0))), (2, .inl ((.negSucc 2147483647, .ofNat 2147483647), some (2, .ofNat 0))), (3, .inl ((.ofNat 1, .ofNat 3), some (3, .ofNat 0)))], [], zyh568, 0, 0), [(3, .negSucc 1)], .ofNat 7), (zyx394r, zyh568), 5, 600)]
noncomputable def zyx394d : zKw := (259, 4, 5, 600, zyx394a, zyh513, [(zyx394r, zyh568)])
set_option maxRecDepth 100000 in
theorem zyx394c : zchkX [] zprog2 (zovW [zyx393d]) 100000 kX8_number [] zyx394p zyx394p = true := by decide +kernel
set_option maxRecDepth 100000 in
theorem zyx394e : zrunw zprog2 (zovW [zyx393d]) 100000 (zcutW [] none ((zyx394r, zyh568), 5, 600) zyx394p) 5 600 kX8_number (zkin zyx394r zyh568) 0 (zargs 0 zyx394a, [], (zyh513.1, zyh513.2.1, 0), 0, 0) = true := by decide +kernel
theorem zyx394 {l : Launch} {D : va_G} {tys : List (ClassId × FieldType)} {o : zO} {z : Nat} (E : zEnv tys) : zKnW l D vwCl tys o z (zXX o z) zTs zprog2 zyx394d :=
  zkn_mk E (fun g => List.forall_mem_cons.mpr ⟨zyx393 (o := zwith o g) E, fun _ h => absurd h List.not_mem_nil⟩) (show zget zprog2 259 = some mX8_number from rfl) rfl (by decide) (by decide) (by decide) (by decide) (G := zyx394p) (zkn_pt E (fun g => List.forall_mem_cons.mpr ⟨zyx393 (o := zwith o g) E, fun _ h => absurd h List.not_mem_nil⟩) (show zget zprog2 259 = some mX8_number from rfl) (fun _ h => absurd h List.not_mem_nil) zyx394c) zyx394e
/-! X8_thing -/
noncomputable def zyx395a : List zAV := [.inr (.inr (.inl 94)), .inl ((.ofNat 0, .ofNat 4), none)]
def zyx395r : Option zAV := some (.inl ((.negSucc 2147483647, .ofNat 2147483647), none))
noncomputable def zyx395p : List zPw := []
noncomputable def zyx395d : zKw := (292, 4, 40, 4860, zyx395a, zyh513, [(zyx395r, zyh568)])
set_option maxRecDepth 100000 in
theorem zyx395e : zrunw zprog2 (zovW [zyx394d, zyx392d, zyx389d, zyx331d, zyx332d]) 100000 (zcutW [] none ((zyx395r, zyh568), 40, 4860) zyx395p) 40 4860 k2X8_thing (zkin zyx395r zyh568) 0 (zargs 0 zyx395a, [], (zyh513.1, zyh513.2.1, 0), 0, 0) = true := by decide +kernel
theorem zyx395 {l : Launch} {D : va_G} {tys : List (ClassId × FieldType)} {o : zO} {z : Nat} (E : zEnv tys) : zKnW l D vwCl tys o z (zXX o z) zTs zprog2 zyx395d :=
  zkn_mk E (fun g => List.forall_mem_cons.mpr ⟨zyx394 (o := zwith o g) E, List.forall_mem_cons.mpr ⟨zyx392 (o := zwith o g) E, List.forall_mem_cons.mpr ⟨zyx389 (o := zwith o g) E, List.forall_mem_cons.mpr ⟨zyx331 (o := zwith o g) E, List.forall_mem_cons.mpr ⟨zyx332 (o := zwith o g) E, fun _ h => absurd h List.not_mem_nil⟩⟩⟩⟩⟩) (show zget zprog2 292 = some m2X8_thing from rfl) rfl (by decide) (by decide) (by decide) (by decide) (G := zyx395p) (fun _ h => absurd h List.not_mem_nil) zyx395e
/-! X8_product ((('r', 102), 40, 31),) -/
noncomputable def zyx396a : List zAV := [.inr (.inr (.inl 94)), .inl ((.ofNat 0, .ofNat 4), none)]
def zyx396r : Option zAV := some (.inl ((.negSucc 2147483647, .ofNat 2147483647), none))
noncomputable def zyx396q : zPw := ((6, ([(0, .inr (.inr (.inl 94))), (1, .inl ((.ofNat 0, .ofNat 4), some (1, .ofNat 0))), (2, .inl ((.negSucc 2147483647, .ofNat 2147483647), some (2, .ofNat 0)))], [], zyh568, 0, 0), [], 0), (zyx396r, zyh568), 41, 4980)
set_option maxRecDepth 100000 in
theorem zyx396c : zchkX [(94, 15)] zprog2 (zovW [zyx395d, zyx389d]) 100000 k2X8_product [zyx390q, zyx384q, zyx378q, zyx372q, zyx366q, zyx360q, zyx354q, zyx348q, zyx342q] [zyx396q] [zyx396q] = true := by decide +kernel
theorem zyx396k {l : Launch} {D : va_G} {tys : List (ClassId × FieldType)} {o : zO} {z : Nat} (E : zEnv tys) : zPtOk l D vwCl tys o z (zXX o z) zTs m2X8_product zyx396q := zkn_pt E (fun g => List.forall_mem_cons.mpr ⟨zyx395 (o := zwith o g) E, List.forall_mem_cons.mpr ⟨zyx389 (o := zwith o g) E, fun _ h => absurd h List.not_mem_nil⟩⟩) (show zget zprog2 265 = some m2X8_product from rfl) (List.forall_mem_cons.mpr ⟨zyx390k E, List.forall_mem_cons.mpr ⟨zyx384k E, List.forall_mem_cons.mpr ⟨zyx378k E, List.forall_mem_cons.mpr ⟨zyx372k E, List.forall_mem_cons.mpr ⟨zyx366k E, List.forall_mem_cons.mpr ⟨zyx360k E, List.forall_mem_cons.mpr ⟨zyx354k E, List.forall_mem_cons.mpr ⟨zyx348k E, List.forall_mem_cons.mpr ⟨zyx342k E, fun _ h => absurd h List.not_mem_nil⟩⟩⟩⟩⟩⟩⟩⟩⟩) zyx396c _ List.mem_cons_self
noncomputable def zyx396d : zKw := (265, 5, 41, 4980, zyx396a, zyh513, [(zyx396r, zyh568)])
set_option maxRecDepth 100000 in
theorem zyx396e : zrunw zprog2 (zovW [zyx395d, zyx389d]) 100000 (zcutW [(94, 15)] none ((zyx396r, zyh568), 41, 4980) [zyx396q, zyx390q, zyx384q, zyx378q, zyx372q, zyx366q, zyx360q, zyx354q, zyx348q, zyx342q]) 41 4980 k2X8_product (zkin zyx396r zyh568) 0 (zargs 0 zyx396a, [], (zyh513.1, zyh513.2.1, 0), 0, 0) = true := by decide +kernel
theorem zyx396 {l : Launch} {D : va_G} {tys : List (ClassId × FieldType)} {o : zO} {z : Nat} (E : zEnv tys) : zKnW l D vwCl tys o z (zXX o z) zTs zprog2 zyx396d :=
  zkn_mk E (fun g => List.forall_mem_cons.mpr ⟨zyx395 (o := zwith o g) E, List.forall_mem_cons.mpr ⟨zyx389 (o := zwith o g) E, fun _ h => absurd h List.not_mem_nil⟩⟩) (show zget zprog2 265 = some m2X8_product from rfl) rfl (by decide) (by decide) (by decide) (by decide) (G := [zyx396q, zyx390q, zyx384q, zyx378q, zyx372q, zyx366q, zyx360q, zyx354q, zyx348q, zyx342q]) (List.forall_mem_cons.mpr ⟨zyx396k E, List.forall_mem_cons.mpr ⟨zyx390k E, List.forall_mem_cons.mpr ⟨zyx384k E, List.forall_mem_cons.mpr ⟨zyx378k E, List.forall_mem_cons.mpr ⟨zyx372k E, List.forall_mem_cons.mpr ⟨zyx366k E, List.forall_mem_cons.mpr ⟨zyx360k E, List.forall_mem_cons.mpr ⟨zyx354k E, List.forall_mem_cons.mpr ⟨zyx348k E, List.forall_mem_cons.mpr ⟨zyx342k E, fun _ h => absurd h List.not_mem_nil⟩⟩⟩⟩⟩⟩⟩⟩⟩⟩) zyx396e
