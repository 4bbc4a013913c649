noncomputable def zyc381 : zC := .inr (8, [zyv120, zyv15, zyv15, zyv15, zyv120, zyv120, zyv120, zyv120, zyv15, zyv120, zyv15, zyv15, zyv124, zyv17, zyv319, zyv35, zyv122, zyv120, zyv120, zyv120, zyv15, zyv36, zyv127, zyv120, zyv15, zyv120, zyv120, zyv15, zyv15, zyv120, zyv120, zyv120, zyv120, zyv120, zyv120, zyv120, zyv120, zyv120, zyv120, zyv15, zyv120, zyv120, zyv120, zyv120, zyv15, zyv15, zyv15, zyv15, zyv120, zyv120, zyv120])
noncomputable def zyr310 : List zC := [zyc248, zyc248, zyc248, zyc240, zyc10, zyc10, zyc10, zyc12, zyc241, zyc8, zyc8, zyc241, zyc8, zyc8, zyc381, zyc250]
noncomputable def zyh343 : zH := (126, [zyr178, zyr179, zyr180, zyr181, zyr182, zyr310, zyr184, zyr185], 0)
noncomputable def zyh344 : zH := (126, [zyr178, zyr179, zyr180, zyr181, zyr182, zyr310, zyr184, zyr185], zym9)
noncomputable def zyc382 : zC := .inr (8, [zyv120, zyv15, zyv15, zyv15, zyv120, zyv120, zyv120, zyv120, zyv15, zyv120, zyv15, zyv15, zyv124, zyv17, zyv319, zyv322, zyv166, zyv120, zyv120, zyv120, zyv15, zyv36, zyv127, zyv120, zyv15, zyv120, zyv120, zyv15, zyv15, zyv120, zyv120, zyv120, zyv120, zyv120, zyv120, zyv120, zyv120, zyv120, zyv120, zyv15, zyv120, zyv120, zyv120, zyv120, zyv15, zyv15, zyv15, zyv15, zyv120, zyv120, zyv120])
noncomputable def zyr311 : List zC := [zyc248, zyc248, zyc248, zyc240, zyc10, zyc10, zyc10, zyc12, zyc241, zyc8, zyc8, zyc241, zyc8, zyc8, zyc382, zyc250]
noncomputable def zyh345 : zH := (126, [zyr178, zyr179, zyr180, zyr181, zyr182, zyr311, zyr184, zyr185], zym9)
noncomputable def zyc383 : zC := .inr (8, [zyv120, zyv15, zyv15, zyv15, zyv120, zyv120, zyv120, zyv120, zyv15, zyv120, zyv15, zyv15, zyv124, zyv17, zyv319, zyv322, zyv122, zyv120, zyv120, zyv120, zyv15, zyv36, zyv127, zyv120, zyv15, zyv120, zyv120, zyv15, zyv15, zyv120, zyv120, zyv120, zyv120, zyv120, zyv120, zyv120, zyv120, zyv120, zyv120, zyv15, zyv120, zyv120, zyv120, zyv120, zyv15, zyv15, zyv15, zyv15, zyv120, zyv120, zyv120])
noncomputable def zyr312 : List zC := [zyc248, zyc248, zyc248, zyc240, zyc10, zyc10, zyc10, zyc12, zyc241, zyc8, zyc8, zyc241, zyc8, zyc8, zyc383, zyc250]
noncomputable def zyh346 : zH := (126, [zyr178, zyr179, zyr180, zyr181, zyr182, zyr312, zyr184, zyr185], 0)
noncomputable def zyh347 : zH := (126, [zyr178, zyr179, zyr180, zyr181, zyr182, zyr312, zyr184, zyr185], zym9)
noncomputable def zyc384 : zC := .inr (8, [zyv120, zyv15, zyv15, zyv15, zyv120, zyv120, zyv120, zyv120, zyv15, zyv120, zyv15, zyv15, zyv124, zyv17, zyv319, zyv324, zyv166, zyv120, zyv120, zyv120, zyv15, zyv36, zyv127, zyv120, zyv15, zyv120, zyv120, zyv15, zyv15, zyv120, zyv120, zyv120, zyv120, zyv120, zyv120, zyv120, zyv120, zyv120, zyv120, zyv15, zyv120, zyv120, zyv120, zyv120, zyv15, zyv15, zyv15, zyv15, zyv120, zyv120, zyv120])
noncomputable def zyr313 : List zC := [zyc248, zyc248, zyc248, zyc240, zyc10, zyc10, zyc10, zyc12, zyc241, zyc8, zyc8, zyc241, zyc8, zyc8, zyc384, zyc250]
noncomputable def zyh348 : zH := (126, [zyr178, zyr179, zyr180, zyr181, zyr182, zyr313, zyr184, zyr185], zym9)
noncomputable def zyc385 : zC := .inr (8, [zyv120, zyv15, zyv15, zyv15, zyv120, zyv120, zyv120, zyv120, zyv15, zyv120, zyv15, zyv15, zyv124, zyv17, zyv319, zyv324, zyv122, zyv120, zyv120, zyv120, zyv15, zyv36, zyv127, zyv120, zyv15, zyv120, zyv120, zyv15, zyv15, zyv120, zyv120, zyv120, zyv120, zyv120, zyv120, zyv120, zyv120, zyv120, zyv120, zyv15, zyv120, zyv120, zyv120, zyv120, zyv15, zyv15, zyv15, zyv15, zyv120, zyv120, zyv120])
noncomputable def zyr314 : List zC := [zyc248, zyc248, zyc248, zyc240, zyc10, zyc10, zyc10, zyc12, zyc241, zyc8, zyc8, zyc241, zyc8, zyc8, zyc385, zyc250]
noncomputable def zyh349 : zH := (126, [zyr178, zyr179, zyr180, zyr181, zyr182, zyr314, zyr184, zyr185], 0)
noncomputable def zyh350 : zH := (126, [zyr178, zyr179, zyr180, zyr181, zyr182, zyr314, zyr184, zyr185], zym9)
noncomputable def zyc386 : zC := .inr (8, [zyv120, zyv15, zyv15, zyv15, zyv120, zyv120, zyv120, zyv120, zyv15, zyv120, zyv15, zyv15, zyv124, zyv17, zyv319, zyv325, zyv166, zyv120, zyv120, zyv120, zyv15, zyv36, zyv127, zyv120, zyv15, zyv120, zyv120, zyv15, zyv15, zyv120, zyv120, zyv120, zyv120, zyv120, zyv120, zyv120, zyv120, zyv120, zyv120, zyv15, zyv120, zyv120, zyv120, zyv120, zyv15, zyv15, zyv15, zyv15, zyv120, zyv120, zyv120])
noncomputable def zyr315 : List zC := [zyc248, zyc248, zyc248, zyc240, zyc10, zyc10, zyc10, zyc12, zyc241, zyc8, zyc8, zyc241, zyc8, zyc8, zyc386, zyc250]
noncomputable def zyh351 : zH := (126, [zyr178, zyr179, zyr180, zyr181, zyr182, zyr315, zyr184, zyr185], zym9)
noncomputable def zyc387 : zC := .inr (8, [zyv120, zyv15, zyv15, zyv15, zyv120, zyv120, zyv120, zyv120, zyv15, zyv120, zyv15, zyv15, zyv124, zyv17, zyv319, zyv325, zyv122, zyv120, zyv120, zyv120, zyv15, zyv36, zyv127, zyv120, zyv15, zyv120, zyv120, zyv15, zyv15, zyv120, zyv120, zyv120, zyv120, zyv120, zyv120, zyv120, zyv120, zyv120, zyv120, zyv15, zyv120, zyv120, zyv120, zyv120, zyv15, zyv15, zyv15, zyv15, zyv120, zyv120, zyv120])
noncomputable def zyr316 : List zC := [zyc248, zyc248, zyc248, zyc240, zyc10, zyc10, zyc10, zyc12, zyc241, zyc8, zyc8, zyc241, zyc8, zyc8, zyc387, zyc250]
noncomputable def zyh352 : zH := (126, [zyr178, zyr179, zyr180, zyr181, zyr182, zyr316, zyr184, zyr185], 0)
noncomputable def zyh353 : zH := (126, [zyr178, zyr179, zyr180, zyr181, zyr182, zyr316, zyr184, zyr185], zym9)
noncomputable def zyc388 : zC := .inr (8, [zyv120, zyv15, zyv15, zyv15, zyv120, zyv120, zyv120, zyv120, zyv15, zyv120, zyv15, zyv15, zyv124, zyv17, zyv319, zyv326, zyv166, zyv120, zyv120, zyv120, zyv15, zyv36, zyv127, zyv120, zyv15, zyv120, zyv120, zyv15, zyv15, zyv120, zyv120, zyv120, zyv120, zyv120, zyv120, zyv120, zyv120, zyv120, zyv120, zyv15, zyv120, zyv120, zyv120, zyv120, zyv15, zyv15, zyv15, zyv15, zyv120, zyv120, zyv120])
noncomputable def zyr317 : List zC := [zyc248, zyc248, zyc248, zyc240, zyc10, zyc10, zyc10, zyc12, zyc241, zyc8, zyc8, zyc241, zyc8, zyc8, zyc388, zyc250]
noncomputable def zyh354 : zH := (126, [zyr178, zyr179, zyr180, zyr181, zyr182, zyr317, zyr184, zyr185], zym9)
noncomputable def zyc389 : zC := .inr (8, [zyv120, zyv15, zyv15, zyv15, zyv120, zyv120, zyv120, zyv120, zyv15, zyv120, zyv15, zyv15, zyv124, zyv17, zyv319, zyv326, zyv122, zyv120, zyv120, zyv120, zyv15, zyv36, zyv127, zyv120, zyv15, zyv120, zyv120, zyv15, zyv15, zyv120, zyv120, zyv120, zyv120, zyv120, zyv120, zyv120, zyv120, zyv120, zyv120, zyv15, zyv120, zyv120, zyv120, zyv120, zyv15, zyv15, zyv15, zyv15, zyv120, zyv120, zyv120])
noncomputable def zyr318 : List zC := [zyc248, zyc248, zyc248, zyc240, zyc10, zyc10, zyc10, zyc12, zyc241, zyc8, zyc8, zyc241, zyc8, zyc8, zyc389, zyc250]
noncomputable def zyh355 : zH := (126, [zyr178, zyr179, zyr180, zyr181, zyr182, zyr318, zyr184, zyr185], 0)
noncomputable def zyh356 : zH := (126, [zyr178, zyr179, zyr180, zyr181, zyr182, zyr318, zyr184, zyr185], zym9)
noncomputable def zyc390 : zC := .inr (8, [zyv120, zyv15, zyv15, zyv15, zyv120, zyv120, zyv120, zyv120, zyv15, zyv120, zyv15, zyv15, zyv124, zyv17, zyv319, zyv327, zyv166, zyv120, zyv120, zyv120, zyv15, zyv36, zyv127, zyv120, zyv15, zyv120, zyv120, zyv15, zyv15, zyv120, zyv120, zyv120, zyv120, zyv120, zyv120, zyv120, zyv120, zyv120, zyv120, zyv15, zyv120, zyv120, zyv120, zyv120, zyv15, zyv15, zyv15, zyv15, zyv120, zyv120, zyv120])
noncomputable def zyr319 : List zC := [zyc248, zyc248, zyc248, zyc240, zyc10, zyc10, zyc10, zyc12, zyc241, zyc8, zyc8, zyc241, zyc8, zyc8, zyc390, zyc250]
noncomputable def zyh357 : zH := (126, [zyr178, zyr179, zyr180, zyr181, zyr182, zyr319, zyr184, zyr185], zym9)
noncomputable def zyc391 : zC := .inr (8, [zyv120, zyv15, zyv15, zyv15, zyv120, zyv120, zyv120, zyv120, zyv15, zyv120, zyv15, zyv15, zyv124, zyv17, zyv319, zyv327, zyv122, zyv120, zyv120, zyv120, zyv15, zyv36, zyv127, zyv120, zyv15, zyv120, zyv120, zyv15, zyv15, zyv120, zyv120, zyv120, zyv120, zyv120, zyv120, zyv120, zyv120, zyv120, zyv120, zyv15, zyv120, zyv120, zyv120, zyv120, zyv15, zyv15, zyv15, zyv15, zyv120, zyv120, zyv120])
noncomputable def zyr320 : List zC := [zyc248, zyc248, zyc248, zyc240, zyc10, zyc10, zyc10, zyc12, zyc241, zyc8, zyc8, zyc241, zyc8, zyc8, zyc391, zyc250]
noncomputable def zyh358 : zH := (126, [zyr178, zyr179, zyr180, zyr181, zyr182, zyr320, zyr184, zyr185], 0)
noncomputable def zyh359 : zH := (126, [zyr178, zyr179, zyr180, zyr181, zyr182, zyr320, zyr184, zyr185], zym9)
noncomputable def zyc392 : zC := .inr (8, [zyv120, zyv15, zyv15, zyv15, zyv120, zyv120, zyv120, zyv120, zyv15, zyv120, zyv15, zyv15, zyv124, zyv17, zyv319, zyv328, zyv166, zyv120, zyv120, zyv120, zyv15, zyv36, zyv127, zyv120, zyv15, zyv120, zyv120, zyv15, zyv15, zyv120, zyv120, zyv120, zyv120, zyv120, zyv120, zyv120, zyv120, zyv120, zyv120, zyv15, zyv120, zyv120, zyv120, zyv120, zyv15, zyv15, zyv15, zyv15, zyv120, zyv120, zyv120])
noncomputable def zyr321 : List zC := [zyc248, zyc248, zyc248, zyc240, zyc10, zyc10, zyc10, zyc12, zyc241, zyc8, zyc8, zyc241, zyc8, zyc8, zyc392, zyc250]
noncomputable def zyh360 : zH := (126, [zyr178, zyr179, zyr180, zyr181, zyr182, zyr321, zyr184, zyr185], zym9)
noncomputable def zyc393 : zC := .inr (8, [zyv120, zyv15, zyv15, zyv15, zyv120, zyv120, zyv120, zyv120, zyv15, zyv120, zyv15, zyv15, zyv124, zyv17, zyv319, zyv328, zyv122, zyv120, zyv120, zyv120, zyv15, zyv36, zyv127, zyv120, zyv15, zyv120, zyv120, zyv15, zyv15, zyv120, zyv120, zyv120, zyv120, zyv120, zyv120, zyv120, zyv120, zyv120, zyv120, zyv15, zyv120, zyv120, zyv120, zyv120, zyv15, zyv15, zyv15, zyv15, zyv120, zyv120, zyv120])
noncomputable def zyr322 : List zC := [zyc248, zyc248, zyc248, zyc240, zyc10, zyc10, zyc10, zyc12, zyc241, zyc8, zyc8, zyc241, zyc8, zyc8, zyc393, zyc250]
noncomputable def zyh361 : zH := (126, [zyr178, zyr179, zyr180, zyr181, zyr182, zyr322, zyr184, zyr185], 0)
noncomputable def zyh362 : zH := (126, [zyr178, zyr179, zyr180, zyr181, zyr182, zyr322, zyr184, zyr185], zym9)
noncomputable def zyc394 : zC := .inr (8, [zyv120, zyv15, zyv15, zyv15, zyv120, zyv120, zyv120, zyv120, zyv15, zyv120, zyv15, zyv15, zyv124, zyv17, zyv319, zyv329, zyv166, zyv120, zyv120, zyv120, zyv15, zyv36, zyv127, zyv120, zyv15, zyv120, zyv120, zyv15, zyv15, zyv120, zyv120, zyv120, zyv120, zyv120, zyv120, zyv120, zyv120, zyv120, zyv120, zyv15, zyv120, zyv120, zyv120, zyv120, zyv15, zyv15, zyv15, zyv15, zyv120, zyv120, zyv120])
noncomputable def zyr323 : List zC := [zyc248, zyc248, zyc248, zyc240, zyc10, zyc10, zyc10, zyc12, zyc241, zyc8, zyc8, zyc241, zyc8, zyc8, zyc394, zyc250]
noncomputable def zyh363 : zH := (126, [zyr178, zyr179, zyr180, zyr181, zyr182, zyr323, zyr184, zyr185], zym9)
noncomputable def zyc395 : zC := .inr (8, [zyv120, zyv15, zyv15, zyv15, zyv120, zyv120, zyv120, zyv120, zyv15, zyv120, zyv15, zyv15, zyv124, zyv17, zyv319, zyv329, zyv122, zyv120, zyv120, zyv120, zyv15, zyv36, zyv127, zyv120, zyv15, zyv120, zyv120, zyv15, zyv15, zyv120, zyv120, zyv120, zyv120, zyv120, zyv120, zyv120, zyv120, zyv120, zyv120, zyv15, zyv120, zyv120, zyv120, zyv120, zyv15, zyv15, zyv15, zyv15, zyv120, zyv120, zyv120])
noncomputable def zyr324 : List zC := [zyc248, zyc248, zyc248, zyc240, zyc10, zyc10, zyc10, zyc12, zyc241, zyc8, zyc8, zyc241, zyc8, zyc8, zyc395, zyc250]
noncomputable def zyh364 : zH := (126, [zyr178, zyr179, zyr180, zyr181, zyr182, zyr324, zyr184, zyr185], 0)
noncomputable def zyh365 : zH := (126, [zyr178, zyr179, zyr180, zyr181, zyr182, zyr324, zyr184, zyr185], zym9)
noncomputable def zyc396 : zC := .inr (8, [zyv120, zyv15, zyv15, zyv15, zyv120, zyv120, zyv120, zyv120, zyv15, zyv120, zyv15, zyv15, zyv124, zyv17, zyv319, zyv330, zyv166, zyv120, zyv120, zyv120, zyv15, zyv36, zyv127, zyv120, zyv15, zyv120, zyv120, zyv15, zyv15, zyv120, zyv120, zyv120, zyv120, zyv120, zyv120, zyv120, zyv120, zyv120, zyv120, zyv15, zyv120, zyv120, zyv120, zyv120, zyv15, zyv15, zyv15, zyv15, zyv120, zyv120, zyv120])
noncomputable def zyr325 : List zC := [zyc248, zyc248, zyc248, zyc240, zyc10, zyc10, zyc10, zyc12, zyc241, zyc8, zyc8, zyc241, zyc8, zyc8, zyc396, zyc250]
noncomputable def zyh366 : zH := (126, [zyr178, zyr179, zyr180, zyr181, zyr182, zyr325, zyr184, zyr185], zym9)
noncomputable def zyc397 : zC := .inr (8, [zyv120, zyv15, zyv15, zyv15, zyv120, zyv120, zyv120, zyv120, zyv15, zyv120, zyv15, zyv15, zyv124, zyv17, zyv319, zyv330, zyv122, zyv120, zyv120, zyv120, zyv15, zyv36, zyv127, zyv120, zyv15, zyv120, zyv120, zyv15, zyv15, zyv120, zyv120, zyv120, zyv120, zyv120, zyv120, zyv120, zyv120, zyv120, zyv120, zyv15, zyv120, zyv120, zyv120, zyv120, zyv15, zyv15, zyv15, zyv15, zyv120, zyv120, zyv120])
noncomputable def zyr326 : List zC := [zyc248, zyc248, zyc248, zyc240, zyc10, zyc10, zyc10, zyc12, zyc241, zyc8, zyc8, zyc241, zyc8, zyc8, zyc397, zyc250]
noncomputable def zyh367 : zH := (126, [zyr178, zyr179, zyr180, zyr181, zyr182, zyr326, zyr184, zyr185], 0)
noncomputable def zyh368 : zH := (126, [zyr178, zyr179, zyr180, zyr181, zyr182, zyr326, zyr184, zyr185], zym9)
noncomputable def zyc398 : zC := .inr (8, [zyv120, zyv15, zyv15, zyv15, zyv120, zyv120, zyv120, zyv120, zyv15, zyv120, zyv15, zyv15, zyv124, zyv17, zyv319, zyv331, zyv166, zyv120, zyv120, zyv120, zyv15, zyv36, zyv127, zyv120, zyv15, zyv120, zyv120, zyv15, zyv15, zyv120, zyv120, zyv120, zyv120, zyv120, zyv120, zyv120, zyv120, zyv120, zyv120, zyv15, zyv120, zyv120, zyv120, zyv120, zyv15, zyv15, zyv15, zyv15, zyv120, zyv120, zyv120])
noncomputable def zyr327 : List zC := [zyc248, zyc248, zyc248, zyc240, zyc10, zyc10, zyc10, zyc12, zyc241, zyc8, zyc8, zyc241, zyc8, zyc8, zyc398, zyc250]
noncomputable def zyh369 : zH := (126, [zyr178, zyr179, zyr180, zyr181, zyr182, zyr327, zyr184, zyr185], zym9)
noncomputable def zyc399 : zC := .inr (8, [zyv120, zyv15, zyv15, zyv15, zyv120, zyv120, zyv120, zyv120, zyv15, zyv120, zyv15, zyv15, zyv124, zyv17, zyv319, zyv331, zyv122, zyv120, zyv120, zyv120, zyv15, zyv36, zyv127, zyv120, zyv15, zyv120, zyv120, zyv15, zyv15, zyv120, zyv120, zyv120, zyv120, zyv120, zyv120, zyv120, zyv120, zyv120, zyv120, zyv15, zyv120, zyv120, zyv120, zyv120, zyv15, zyv15, zyv15, zyv15, zyv120, zyv120, zyv120])
noncomputable def zyr328 : List zC := [zyc248, zyc248, zyc248, zyc240, zyc10, zyc10, zyc10, zyc12, zyc241, zyc8, zyc8, zyc241, zyc8, zyc8, zyc399, zyc250]
noncomputable def zyh370 : zH := (126, [zyr178, zyr179, zyr180, zyr181, zyr182, zyr328, zyr184, zyr185], 0)
noncomputable def zyh371 : zH := (126, [zyr178, zyr179, zyr180, zyr181, zyr182, zyr328, zyr184, zyr185], zym9)
noncomputable def zyc400 : zC := .inr (8, [zyv120, zyv15, zyv15, zyv15, zyv120, zyv120, zyv120, zyv120, zyv15, zyv120, zyv15, zyv15, zyv124, zyv17, zyv319, zyv332, zyv166, zyv120, zyv120, zyv120, zyv15, zyv36, zyv127, zyv120, zyv15, zyv120, zyv120, zyv15, zyv15, zyv120, zyv120, zyv120, zyv120, zyv120, zyv120, zyv120, zyv120, zyv120, zyv120, zyv15, zyv120, zyv120, zyv120, zyv120, zyv15, zyv15, zyv15, zyv15, zyv120, zyv120, zyv120])
noncomputable def zyr329 : List zC := [zyc248, zyc248, zyc248, zyc240, zyc10, zyc10, zyc10, zyc12, zyc241, zyc8, zyc8, zyc241, zyc8, zyc8, zyc400, zyc250]
noncomputable def zyh372 : zH := (126, [zyr178, zyr179, zyr180, zyr181, zyr182, zyr329, zyr184, zyr185], zym9)
noncomputable def zyc401 : zC := .inr (8, [zyv120, zyv15, zyv15, zyv15, zyv120, zyv120, zyv120, zyv120, zyv15, zyv120, zyv15, zyv15, zyv124, zyv17, zyv319, zyv333, zyv122, zyv120, zyv120, zyv120, zyv15, zyv36, zyv127, zyv120, zyv15, zyv120, zyv120, zyv15, zyv15, zyv120, zyv120, zyv120, zyv120, zyv120, zyv120, zyv120, zyv120, zyv120, zyv120, zyv15, zyv120, zyv120, zyv120, zyv120, zyv15, zyv15, zyv15, zyv15, zyv120, zyv120, zyv120])
noncomputable def zyr330 : List zC := [zyc248, zyc248, zyc248, zyc240, zyc10, zyc10, zyc10, zyc12, zyc241, zyc8, zyc8, zyc241, zyc8, zyc8, zyc401, zyc250]
noncomputable def zyh373 : zH := (126, [zyr178, zyr179, zyr180, zyr181, zyr182, zyr330, zyr184, zyr185], 0)
noncomputable def zyh374 : zH := (126, [zyr178, zyr179, zyr180, zyr181, zyr182, zyr330, zyr184, zyr185], zym9)
noncomputable def zyc402 : zC := .inr (8, [zyv120, zyv15, zyv15, zyv15, zyv120, zyv120, zyv120, zyv120, zyv15, zyv120, zyv15, zyv15, zyv124, zyv17, zyv319, zyv334, zyv166, zyv120, zyv120, zyv120, zyv15, zyv36, zyv127, zyv120, zyv15, zyv120, zyv120, zyv15, zyv15, zyv120, zyv120, zyv120, zyv120, zyv120, zyv120, zyv120, zyv120, zyv120, zyv120, zyv15, zyv120, zyv120, zyv120, zyv120, zyv15, zyv15, zyv15, zyv15, zyv120, zyv120, zyv120])
noncomputable def zyr331 : List zC := [zyc248, zyc248, zyc248, zyc240, zyc10, zyc10, zyc10, zyc12, zyc241, zyc8, zyc8, zyc241, zyc8, zyc8, zyc402, zyc250]
noncomputable def zyh375 : zH := (126, [zyr178, zyr179, zyr180, zyr181, zyr182, zyr331, zyr184, zyr185], zym9)
noncomputable def zyc403 : zC := .inr (8, [zyv120, zyv15, zyv15, zyv15, zyv120, zyv120, zyv120, zyv120, zyv15, zyv120, zyv15, zyv15, zyv124, zyv17, zyv319, zyv334, zyv122, zyv120, zyv120, zyv120, zyv15, zyv36, zyv127, zyv120, zyv15, zyv120, zyv120, zyv15, zyv15, zyv120, zyv120, zyv120, zyv120, zyv120, zyv120, zyv120, zyv120, zyv120, zyv120, zyv15, zyv120, zyv120, zyv120, zyv120, zyv15, zyv15, zyv15, zyv15, zyv120, zyv120, zyv120])
noncomputable def zyr332 : List zC := [zyc248, zyc248, zyc248, zyc240, zyc10, zyc10, zyc10, zyc12, zyc241, zyc8, zyc8, zyc241, zyc8, zyc8, zyc403, zyc250]
noncomputable def zyh376 : zH := (126, [zyr178, zyr179, zyr180, zyr181, zyr182, zyr332, zyr184, zyr185], 0)
noncomputable def zyh377 : zH := (126, [zyr178, zyr179, zyr180, zyr181, zyr182, zyr332, zyr184, zyr185], zym9)
noncomputable def zyc404 : zC := .inr (8, [zyv120, zyv15, zyv15, zyv15, zyv120, zyv120, zyv120, zyv120, zyv15, zyv120, zyv15, zyv15, zyv124, zyv17, zyv319, zyv335, zyv166, zyv120, zyv120, zyv120, zyv15, zyv36, zyv127, zyv120, zyv15, zyv120, zyv120, zyv15, zyv15, zyv120, zyv120, zyv120, zyv120, zyv120, zyv120, zyv120, zyv120, zyv120, zyv120, zyv15, zyv120, zyv120, zyv120, zyv120, zyv15, zyv15, zyv15, zyv15, zyv120, zyv120, zyv120])
noncomputable def zyr333 : List zC := [zyc248, zyc248, zyc248, zyc240, zyc10, zyc10, zyc10, zyc12, zyc241, zyc8, zyc8, zyc241, zyc8, zyc8, zyc404, zyc250]
noncomputable def zyh378 : zH := (126, [zyr178, zyr179, zyr180, zyr181, zyr182, zyr333, zyr184, zyr185], zym9)
noncomputable def zyc405 : zC := .inr (8, [zyv120, zyv15, zyv15, zyv15, zyv120, zyv120, zyv120, zyv120, zyv15, zyv120, zyv15, zyv15, zyv124, zyv17, zyv319, zyv335, zyv122, zyv120, zyv120, zyv120, zyv15, zyv36, zyv127, zyv120, zyv15, zyv120, zyv120, zyv15, zyv15, zyv120, zyv120, zyv120, zyv120, zyv120, zyv120, zyv120, zyv120, zyv120, zyv120, zyv15, zyv120, zyv120, zyv120, zyv120, zyv15, zyv15, zyv15, zyv15, zyv120, zyv120, zyv120])
noncomputable def zyr334 : List zC := [zyc248, zyc248, zyc248, zyc240, zyc10, zyc10, zyc10, zyc12, zyc241, zyc8, zyc8, zyc241, zyc8, zyc8, zyc405, zyc250]
noncomputable def zyh379 : zH := (126, [zyr178, zyr179, zyr180, zyr181, zyr182, zyr334, zyr184, zyr185], 0)
noncomputable def zyh380 : zH := (126, [zyr178, zyr179, zyr180, zyr181, zyr182, zyr334, zyr184, zyr185], zym9)
noncomputable def zyc406 : zC := .inr (8, [zyv120, zyv15, zyv15, zyv15, zyv120, zyv120, zyv120, zyv120, zyv15, zyv120, zyv15, zyv15, zyv124, zyv17, zyv319, zyv336, zyv166, zyv120, zyv120, zyv120, zyv15, zyv36, zyv127, zyv120, zyv15, zyv120, zyv120, zyv15, zyv15, zyv120, zyv120, zyv120, zyv120, zyv120, zyv120, zyv120, zyv120, zyv120, zyv120, zyv15, zyv120, zyv120, zyv120, zyv120, zyv15, zyv15, zyv15, zyv15, zyv120, zyv120, zyv120])
noncomputable def zyr335 : List zC := [zyc248, zyc248, zyc248, zyc240, zyc10, zyc10, zyc10, zyc12, zyc241, zyc8, zyc8, zyc241, zyc8, zyc8, zyc406, zyc250]
noncomputable def zyh381 : zH := (126, [zyr178, zyr179, zyr180, zyr181, zyr182, zyr335, zyr184, zyr185], zym9)
noncomputable def zyc407 : zC := .inr (8, [zyv120, zyv15, zyv15, zyv15, zyv120, zyv120, zyv120, zyv120, zyv15, zyv120, zyv15, zyv15, zyv124, zyv17, zyv319, zyv336, zyv122, zyv120, zyv120, zyv120, zyv15, zyv36, zyv127, zyv120, zyv15, zyv120, zyv120, zyv15, zyv15, zyv120, zyv120, zyv120, zyv120, zyv120, zyv120, zyv120, zyv120, zyv120, zyv120, zyv15, zyv120, zyv120, zyv120, zyv120, zyv15, zyv15, zyv15, zyv15, zyv120, zyv120, zyv120])
noncomputable def zyr336 : List zC := [zyc248, zyc248, zyc248, zyc240, zyc10, zyc10, zyc10, zyc12, zyc241, zyc8, zyc8, zyc241, zyc8, zyc8, zyc407, zyc250]
noncomputable def zyh382 : zH := (126, [zyr178, zyr179, zyr180, zyr181, zyr182, zyr336, zyr184, zyr185], 0)
noncomputable def zyh383 : zH := (126, [zyr178, zyr179, zyr180, zyr181, zyr182, zyr336, zyr184, zyr185], zym9)
noncomputable def zyc408 : zC := .inr (8, [zyv120, zyv15, zyv15, zyv15, zyv120, zyv120, zyv120, zyv120, zyv15, zyv120, zyv15, zyv15, zyv124, zyv17, zyv319, zyv337, zyv166, zyv120, zyv120, zyv120, zyv15, zyv36, zyv127, zyv120, zyv15, zyv120, zyv120, zyv15, zyv15, zyv120, zyv120, zyv120, zyv120, zyv120, zyv120, zyv120, zyv120, zyv120, zyv120, zyv15, zyv120, zyv120, zyv120, zyv120, zyv15, zyv15, zyv15, zyv15, zyv120, zyv120, zyv120])
noncomputable def zyr337 : List zC := [zyc248, zyc248, zyc248, zyc240, zyc10, zyc10, zyc10, zyc12, zyc241, zyc8, zyc8, zyc241, zyc8, zyc8, zyc408, zyc250]
noncomputable def zyh384 : zH := (126, [zyr178, zyr179, zyr180, zyr181, zyr182, zyr337, zyr184, zyr185], zym9)
noncomputable def zyc409 : zC := .inr (8, [zyv120, zyv15, zyv15, zyv15, zyv120, zyv120, zyv120, zyv120, zyv15, zyv120, zyv15, zyv15, zyv124, zyv17, zyv319, zyv337, zyv122, zyv120, zyv120, zyv120, zyv15, zyv36, zyv127, zyv120, zyv15, zyv120, zyv120, zyv15, zyv15, zyv120, zyv120, zyv120, zyv120, zyv120, zyv120, zyv120, zyv120, zyv120, zyv120, zyv15, zyv120, zyv120, zyv120, zyv120, zyv15, zyv15, zyv15, zyv15, zyv120, zyv120, zyv120])
noncomputable def zyr338 : List zC := [zyc248, zyc248, zyc248, zyc240, zyc10, zyc10, zyc10, zyc12, zyc241, zyc8, zyc8, zyc241, zyc8, zyc8, zyc409, zyc250]
noncomputable def zyh385 : zH := (126, [zyr178, zyr179, zyr180, zyr181, zyr182, zyr338, zyr184, zyr185], 0)
noncomputable def zyh386 : zH := (126, [zyr178, zyr179, zyr180, zyr181, zyr182, zyr338, zyr184, zyr185], zym9)
noncomputable def zyc410 : zC := .inr (8, [zyv120, zyv15, zyv15, zyv15, zyv120, zyv120, zyv120, zyv120, zyv15, zyv120, zyv15, zyv15, zyv124, zyv17, zyv319, zyv338, zyv166, zyv120, zyv120, zyv120, zyv15, zyv36, zyv127, zyv120, zyv15, zyv120, zyv120, zyv15, zyv15, zyv120, zyv120, zyv120, zyv120, zyv120, zyv120, zyv120, zyv120, zyv120, zyv120, zyv15, zyv120, zyv120, zyv120, zyv120, zyv15, zyv15, zyv15, zyv15, zyv120, zyv120, zyv120])
noncomputable def zyr339 : List zC := [zyc248, zyc248, zyc248, zyc240, zyc10, zyc10, zyc10, zyc12, zyc241, zyc8, zyc8, zyc241, zyc8, zyc8, zyc410, zyc250]
noncomputable def zyh387 : zH := (126, [zyr178, zyr179, zyr180, zyr181, zyr182, zyr339, zyr184, zyr185], zym9)
noncomputable def zyc411 : zC := .inr (8, [zyv120, zyv15, zyv15, zyv15, zyv120, zyv120, zyv120, zyv120, zyv15, zyv120, zyv15, zyv15, zyv124, zyv17, zyv319, zyv338, zyv122, zyv120, zyv120, zyv120, zyv15, zyv36, zyv127, zyv120, zyv15, zyv120, zyv120, zyv15, zyv15, zyv120, zyv120, zyv120, zyv120, zyv120, zyv120, zyv120, zyv120, zyv120, zyv120, zyv15, zyv120, zyv120, zyv120, zyv120, zyv15, zyv15, zyv15, zyv15, zyv120, zyv120, zyv120])
noncomputable def zyr340 : List zC := [zyc248, zyc248, zyc248, zyc240, zyc10, zyc10, zyc10, zyc12, zyc241, zyc8, zyc8, zyc241, zyc8, zyc8, zyc411, zyc250]
noncomputable def zyh388 : zH := (126, [zyr178, zyr179, zyr180, zyr181, zyr182, zyr340, zyr184, zyr185], 0)
noncomputable def zyh389 : zH := (126, [zyr178, zyr179, zyr180, zyr181, zyr182, zyr340, zyr184, zyr185], zym9)
noncomputable def zyc412 : zC := .inr (8, [zyv120, zyv15, zyv15, zyv15, zyv120, zyv120, zyv120, zyv120, zyv15, zyv120, zyv15, zyv15, zyv124, zyv17, zyv319, zyv339, zyv166, zyv120, zyv120, zyv120, zyv15, zyv36, zyv127, zyv120, zyv15, zyv120, zyv120, zyv15, zyv15, zyv120, zyv120, zyv120, zyv120, zyv120, zyv120, zyv120, zyv120, zyv120, zyv120, zyv15, zyv120, zyv120, zyv120, zyv120, zyv15, zyv15, zyv15, zyv15, zyv120, zyv120, zyv120])
noncomputable def zyr341 : List zC := [zyc248, zyc248, zyc248, zyc240, zyc10, zyc10, zyc10, zyc12, zyc241, zyc8, zyc8, zyc241, zyc8, zyc8, zyc412, zyc250]
noncomputable def zyh390 : zH := (126, [zyr178, zyr179, zyr180, zyr181, zyr182, zyr341, zyr184, zyr185], zym9)
noncomputable def zyc413 : zC := .inr (8, [zyv120, zyv15, zyv15, zyv15, zyv120, zyv120, zyv120, zyv120, zyv15, zyv120, zyv15, zyv15, zyv124, zyv17, zyv319, zyv339, zyv122, zyv120, zyv120, zyv120, zyv15, zyv36, zyv127, zyv120, zyv15, zyv120, zyv120, zyv15, zyv15, zyv120, zyv120, zyv120, zyv120, zyv120, zyv120, zyv120, zyv120, zyv120, zyv120, zyv15, zyv120, zyv120, zyv120, zyv120, zyv15, zyv15, zyv15, zyv15, zyv120, zyv120, zyv120])
noncomputable def zyr342 : List zC := [zyc248, zyc248, zyc248, zyc240, zyc10, zyc10, zyc10, zyc12, zyc241, zyc8, zyc8, zyc241, zyc8, zyc8, zyc413, zyc250]
noncomputable def zyh391 : zH := (126, [zyr178, zyr179, zyr180, zyr181, zyr182, zyr342, zyr184, zyr185], 0)
noncomputable def zyh392 : zH := (126, [zyr178, zyr179, zyr180, zyr181, zyr182, zyr342, zyr184, zyr185], zym9)
noncomputable def zyc414 : zC := .inr (8, [zyv120, zyv15, zyv15, zyv15, zyv120, zyv120, zyv120, zyv120, zyv15, zyv120, zyv15, zyv15, zyv124, zyv17, zyv319, zyv340, zyv166, zyv120, zyv120, zyv120, zyv15, zyv36, zyv127, zyv120, zyv15, zyv120, zyv120, zyv15, zyv15, zyv120, zyv120, zyv120, zyv120, zyv120, zyv120, zyv120, zyv120, zyv120, zyv120, zyv15, zyv120, zyv120, zyv120, zyv120, zyv15, zyv15, zyv15, zyv15, zyv120, zyv120, zyv120])
noncomputable def zyr343 : List zC := [zyc248, zyc248, zyc248, zyc240, zyc10, zyc10, zyc10, zyc12, zyc241, zyc8, zyc8, zyc241, zyc8, zyc8, zyc414, zyc250]
noncomputable def zyh393 : zH := (126, [zyr178, zyr179, zyr180, zyr181, zyr182, zyr343, zyr184, zyr185], zym9)
noncomputable def zyc415 : zC := .inr (8, [zyv120, zyv15, zyv15, zyv15, zyv120, zyv120, zyv120, zyv120, zyv15, zyv120, zyv15, zyv15, zyv124, zyv17, zyv319, zyv340, zyv122, zyv120, zyv120, zyv120, zyv15, zyv36, zyv127, zyv120, zyv15, zyv120, zyv120, zyv15, zyv15, zyv120, zyv120, zyv120, zyv120, zyv120, zyv120, zyv120, zyv120, zyv120, zyv120, zyv15, zyv120, zyv120, zyv120, zyv120, zyv15, zyv15, zyv15, zyv15, zyv120, zyv120, zyv120])
noncomputable def zyr344 : List zC := [zyc248, zyc248, zyc248, zyc240, zyc10, zyc10, zyc10, zyc12, zyc241, zyc8, zyc8, zyc241, zyc8, zyc8, zyc415, zyc250]
noncomputable def zyh394 : zH := (126, [zyr178, zyr179, zyr180, zyr181, zyr182, zyr344, zyr184, zyr185], 0)
noncomputable def zyh395 : zH := (126, [zyr178, zyr179, zyr180, zyr181, zyr182, zyr344, zyr184, zyr185], zym9)
noncomputable def zyc416 : zC := .inr (8, [zyv120, zyv15, zyv15, zyv15, zyv120, zyv120, zyv120, zyv120, zyv15, zyv120, zyv15, zyv15, zyv124, zyv17, zyv319, zyv341, zyv166, zyv120, zyv120, zyv120, zyv15, zyv36, zyv127, zyv120, zyv15, zyv120, zyv120, zyv15, zyv15, zyv120, zyv120, zyv120, zyv120, zyv120, zyv120, zyv120, zyv120, zyv120, zyv120, zyv15, zyv120, zyv120, zyv120, zyv120, zyv15, zyv15, zyv15, zyv15, zyv120, zyv120, zyv120])
noncomputable def zyr345 : List zC := [zyc248, zyc248, zyc248, zyc240, zyc10, zyc10, zyc10, zyc12, zyc241, zyc8, zyc8, zyc241, zyc8, zyc8, zyc416, zyc250]
noncomputable def zyh396 : zH := (126, [zyr178, zyr179, zyr180, zyr181, zyr182, zyr345, zyr184, zyr185], zym9)
noncomputable def zyc417 : zC := .inr (8, [zyv120, zyv15, zyv15, zyv15, zyv120, zyv120, zyv120, zyv120, zyv15, zyv120, zyv15, zyv15, zyv124, zyv17, zyv319, zyv341, zyv122, zyv120, zyv120, zyv120, zyv15, zyv36, zyv127, zyv120, zyv15, zyv120, zyv120, zyv15, zyv15, zyv120, zyv120, zyv120, zyv120, zyv120, zyv120, zyv120, zyv120, zyv120, zyv120, zyv15, zyv120, zyv120, zyv120, zyv120, zyv15, zyv15, zyv15, zyv15, zyv120, zyv120, zyv120])
noncomputable def zyr346 : List zC := [zyc248, zyc248, zyc248, zyc240, zyc10, zyc10, zyc10, zyc12, zyc241, zyc8, zyc8, zyc241, zyc8, zyc8, zyc417, zyc250]
noncomputable def zyh397 : zH := (126, [zyr178, zyr179, zyr180, zyr181, zyr182, zyr346, zyr184, zyr185], 0)
noncomputable def zyh398 : zH := (126, [zyr178, zyr179, zyr180, zyr181, zyr182, zyr346, zyr184, zyr185], zym9)
noncomputable def zyc418 : zC := .inr (8, [zyv120, zyv15, zyv15, zyv15, zyv120, zyv120, zyv120, zyv120, zyv15, zyv120, zyv15, zyv15, zyv124, zyv17, zyv319, zyv342, zyv166, zyv120, zyv120, zyv120, zyv15, zyv36, zyv127, zyv120, zyv15, zyv120, zyv120, zyv15, zyv15, zyv120, zyv120, zyv120, zyv120, zyv120, zyv120, zyv120, zyv120, zyv120, zyv120, zyv15, zyv120, zyv120, zyv120, zyv120, zyv15, zyv15, zyv15, zyv15, zyv120, zyv120, zyv120])
noncomputable def zyr347 : List zC := [zyc248, zyc248, zyc248, zyc240, zyc10, zyc10, zyc10, zyc12, zyc241, zyc8, zyc8, zyc241, zyc8, zyc8, zyc418, zyc250]
noncomputable def zyh399 : zH := (126, [zyr178, zyr179, zyr180, zyr181, zyr182, zyr347, zyr184, zyr185], zym9)
noncomputable def zyc419 : zC := .inr (8, [zyv120, zyv15, zyv15, zyv15, zyv120, zyv120, zyv120, zyv120, zyv15, zyv120, zyv15, zyv15, zyv124, zyv17, zyv319, zyv342, zyv122, zyv120, zyv120, zyv120, zyv15, zyv36, zyv127, zyv120, zyv15, zyv120, zyv120, zyv15, zyv15, zyv120, zyv120, zyv120, zyv120, zyv120, zyv120, zyv120, zyv120, zyv120, zyv120, zyv15, zyv120, zyv120, zyv120, zyv120, zyv15, zyv15, zyv15, zyv15, zyv120, zyv120, zyv120])
noncomputable def zyr348 : List zC := [zyc248, zyc248, zyc248, zyc240, zyc10, zyc10, zyc10, zyc12, zyc241, zyc8, zyc8, zyc241, zyc8, zyc8, zyc419, zyc250]
noncomputable def zyh400 : zH := (126, [zyr178, zyr179, zyr180, zyr181, zyr182, zyr348, zyr184, zyr185], 0)
noncomputable def zyh401 : zH := (126, [zyr178, zyr179, zyr180, zyr181, zyr182, zyr348, zyr184, zyr185], zym9)
noncomputable def zyc420 : zC := .inr (8, [zyv120, zyv15, zyv15, zyv15, zyv120, zyv120, zyv120, zyv120, zyv15, zyv120, zyv15, zyv15, zyv124, zyv17, zyv319, zyv343, zyv166, zyv120, zyv120, zyv120, zyv15, zyv36, zyv127, zyv120, zyv15, zyv120, zyv120, zyv15, zyv15, zyv120, zyv120, zyv120, zyv120, zyv120, zyv120, zyv120, zyv120, zyv120, zyv120, zyv15, zyv120, zyv120, zyv120, zyv120, zyv15, zyv15, zyv15, zyv15, zyv120, zyv120, zyv120])
noncomputable def zyr349 : List zC := [zyc248, zyc248, zyc248, zyc240, zyc10, zyc10, zyc10, zyc12, zyc241, zyc8, zyc8, zyc241, zyc8, zyc8, zyc420, zyc250]
noncomputable def zyh402 : zH := (126, [zyr178, zyr179, zyr180, zyr181, zyr182, zyr349, zyr184, zyr185], zym9)
noncomputable def zyc421 : zC := .inr (8, [zyv120, zyv15, zyv15, zyv15, zyv120, zyv120, zyv120, zyv120, zyv15, zyv120, zyv15, zyv15, zyv124, zyv17, zyv319, zyv343, zyv122, zyv120, zyv120, zyv120, zyv15, zyv36, zyv127, zyv120, zyv15, zyv120, zyv120, zyv15, zyv15, zyv120, zyv120, zyv120, zyv120, zyv120, zyv120, zyv120, zyv120, zyv120, zyv120, zyv15, zyv120, zyv120, zyv120, zyv120, zyv15, zyv15, zyv15, zyv15, zyv120, zyv120, zyv120])
noncomputable def zyr350 : List zC := [zyc248, zyc248, zyc248, zyc240, zyc10, zyc10, zyc10, zyc12, zyc241, zyc8, zyc8, zyc241, zyc8, zyc8, zyc421, zyc250]
noncomputable def zyh403 : zH := (126, [zyr178, zyr179, zyr180, zyr181, zyr182, zyr350, zyr184, zyr185], 0)
noncomputable def zyh404 : zH := (126, [zyr178, zyr179, zyr180, zyr181, zyr182, zyr350, zyr184, zyr185], zym9)
noncomputable def zyc422 : zC := .inr (8, [zyv120, zyv15, zyv15, zyv15, zyv120, zyv120, zyv120, zyv120, zyv15, zyv120, zyv15, zyv15, zyv124, zyv17, zyv319, zyv344, zyv166, zyv120, zyv120, zyv120, zyv15, zyv36, zyv127, zyv120, zyv15, zyv120, zyv120, zyv15, zyv15, zyv120, zyv120, zyv120, zyv120, zyv120, zyv120, zyv120, zyv120, zyv120, zyv120, zyv15, zyv120, zyv120, zyv120, zyv120, zyv15, zyv15, zyv15, zyv15, zyv120, zyv120, zyv120])
noncomputable def zyr351 : List zC := [zyc248, zyc248, zyc248, zyc240, zyc10, zyc10, zyc10, zyc12, zyc241, zyc8, zyc8, zyc241, zyc8, zyc8, zyc422, zyc250]
noncomputable def zyh405 : zH := (126, [zyr178, zyr179, zyr180, zyr181, zyr182, zyr351, zyr184, zyr185], zym9)
noncomputable def zyc423 : zC := .inr (8, [zyv120, zyv15, zyv15, zyv15, zyv120, zyv120, zyv120, zyv120, zyv15, zyv120, zyv15, zyv15, zyv124, zyv17, zyv319, zyv344, zyv122, zyv120, zyv120, zyv120, zyv15, zyv36, zyv127, zyv120, zyv15, zyv120, zyv120, zyv15, zyv15, zyv120, zyv120, zyv120, zyv120, zyv120, zyv120, zyv120, zyv120, zyv120, zyv120, zyv15, zyv120, zyv120, zyv120, zyv120, zyv15, zyv15, zyv15, zyv15, zyv120, zyv120, zyv120])
noncomputable def zyr352 : List zC := [zyc248, zyc248, zyc248, zyc240, zyc10, zyc10, zyc10, zyc12, zyc241, zyc8, zyc8, zyc241, zyc8, zyc8, zyc423, zyc250]
noncomputable def zyh406 : zH := (126, [zyr178, zyr179, zyr180, zyr181, zyr182, zyr352, zyr184, zyr185], 0)
noncomputable def zyh407 : zH := (126, [zyr178, zyr179, zyr180, zyr181, zyr182, zyr352, zyr184, zyr185], zym9)
noncomputable def zyc424 : zC := .inr (8, [zyv120, zyv15, zyv15, zyv15, zyv120, zyv120, zyv120, zyv120, zyv15, zyv120, zyv15, zyv15, zyv124, zyv17, zyv319, zyv345, zyv166, zyv120, zyv120, zyv120, zyv15, zyv36, zyv127, zyv120, zyv15, zyv120, zyv120, zyv15, zyv15, zyv120, zyv120, zyv120, zyv120, zyv120, zyv120, zyv120, zyv120, zyv120, zyv120, zyv15, zyv120, zyv120, zyv120, zyv120, zyv15, zyv15, zyv15, zyv15, zyv120, zyv120, zyv120])
noncomputable def zyr353 : List zC := [zyc248, zyc248, zyc248, zyc240, zyc10, zyc10, zyc10, zyc12, zyc241, zyc8, zyc8, zyc241, zyc8, zyc8, zyc424, zyc250]
noncomputable def zyh408 : zH := (126, [zyr178, zyr179, zyr180, zyr181, zyr182, zyr353, zyr184, zyr185], zym9)
noncomputable def zyc425 : zC := .inr (8, [zyv120, zyv15, zyv15, zyv15, zyv120, zyv120, zyv120, zyv120, zyv15, zyv120, zyv15, zyv15, zyv124, zyv17, zyv319, zyv345, zyv122, zyv120, zyv120, zyv120, zyv15, zyv36, zyv127, zyv120, zyv15, zyv120, zyv120, zyv15, zyv15, zyv120, zyv120, zyv120, zyv120, zyv120, zyv120, zyv120, zyv120, zyv120, zyv120, zyv15, zyv120, zyv120, zyv120, zyv120, zyv15, zyv15, zyv15, zyv15, zyv120, zyv120, zyv120])
noncomputable def zyr354 : List zC := [zyc248, zyc248, zyc248, zyc240, zyc10, zyc10, zyc10, zyc12, zyc241, zyc8, zyc8, zyc241, zyc8, zyc8, zyc425, zyc250]
noncomputable def zyh409 : zH := (126, [zyr178, zyr179, zyr180, zyr181, zyr182, zyr354, zyr184, zyr185], 0)
noncomputable def zyh410 : zH := (126, [zyr178, zyr179, zyr180, zyr181, zyr182, zyr354, zyr184, zyr185], zym9)
noncomputable def zyc426 : zC := .inr (8, [zyv120, zyv15, zyv15, zyv15, zyv120, zyv120, zyv120, zyv120, zyv15, zyv120, zyv15, zyv15, zyv124, zyv17, zyv319, zyv346, zyv166, zyv120, zyv120, zyv120, zyv15, zyv36, zyv127, zyv120, zyv15, zyv120, zyv120, zyv15, zyv15, zyv120, zyv120, zyv120, zyv120, zyv120, zyv120, zyv120, zyv120, zyv120, zyv120, zyv15, zyv120, zyv120, zyv120, zyv120, zyv15, zyv15, zyv15, zyv15, zyv120, zyv120, zyv120])
noncomputable def zyr355 : List zC := [zyc248, zyc248, zyc248, zyc240, zyc10, zyc10, zyc10, zyc12, zyc241, zyc8, zyc8, zyc241, zyc8, zyc8, zyc426, zyc250]
noncomputable def zyh411 : zH := (126, [zyr178, zyr179, zyr180, zyr181, zyr182, zyr355, zyr184, zyr185], zym9)
noncomputable def zyc427 : zC := .inr (8, [zyv120, zyv15, zyv15, zyv15, zyv120, zyv120, zyv120, zyv120, zyv15, zyv120, zyv15, zyv15, zyv124, zyv17, zyv319, zyv346, zyv122, zyv120, zyv120, zyv120, zyv15, zyv36, zyv127, zyv120, zyv15, zyv120, zyv120, zyv15, zyv15, zyv120, zyv120, zyv120, zyv120, zyv120, zyv120, zyv120, zyv120, zyv120, zyv120, zyv15, zyv120, zyv120, zyv120, zyv120, zyv15, zyv15, zyv15, zyv15, zyv120, zyv120, zyv120])
noncomputable def zyr356 : List zC := [zyc248, zyc248, zyc248, zyc240, zyc10, zyc10, zyc10, zyc12, zyc241, zyc8, zyc8, zyc241, zyc8, zyc8, zyc427, zyc250]
noncomputable def zyh412 : zH := (126, [zyr178, zyr179, zyr180, zyr181, zyr182, zyr356, zyr184, zyr185], 0)
noncomputable def zyh413 : zH := (126, [zyr178, zyr179, zyr180, zyr181, zyr182, zyr356, zyr184, zyr185], zym9)
noncomputable def zyc428 : zC := .inr (8, [zyv120, zyv15, zyv15, zyv15, zyv120, zyv120, zyv120, zyv120, zyv15, zyv120, zyv15, zyv15, zyv124, zyv17, zyv319, zyv347, zyv166, zyv120, zyv120, zyv120, zyv15, zyv36, zyv127, zyv120, zyv15, zyv120, zyv120, zyv15, zyv15, zyv120, zyv120, zyv120, zyv120, zyv120, zyv120, zyv120, zyv120, zyv120, zyv120, zyv15, zyv120, zyv120, zyv120, zyv120, zyv15, zyv15, zyv15, zyv15, zyv120, zyv120, zyv120])
noncomputable def zyr357 : List zC := [zyc248, zyc248, zyc248, zyc240, zyc10, zyc10, zyc10, zyc12, zyc241, zyc8, zyc8, zyc241, zyc8, zyc8, zyc428, zyc250]
noncomputable def zyh414 : zH := (126, [zyr178, zyr179, zyr180, zyr181, zyr182, zyr357, zyr184, zyr185], zym9)
noncomputable def zyc429 : zC := .inr (8, [zyv120, zyv15, zyv15, zyv15, zyv120, zyv120, zyv120, zyv120, zyv15, zyv120, zyv15, zyv15, zyv124, zyv17, zyv319, zyv347, zyv122, zyv120, zyv120, zyv120, zyv15, zyv36, zyv127, zyv120, zyv15, zyv120, zyv120, zyv15, zyv15, zyv120, zyv120, zyv120, zyv120, zyv120, zyv120, zyv120, zyv120, zyv120, zyv120, zyv15, zyv120, zyv120, zyv120, zyv120, zyv15, zyv15, zyv15, zyv15, zyv120, zyv120, zyv120])
noncomputable def zyr358 : List zC := [zyc248, zyc248, zyc248, zyc240, zyc10, zyc10, zyc10, zyc12, zyc241, zyc8, zyc8, zyc241, zyc8, zyc8, zyc429, zyc250]
noncomputable def zyh415 : zH := (126, [zyr178, zyr179, zyr180, zyr181, zyr182, zyr358, zyr184, zyr185], 0)
noncomputable def zyh416 : zH := (126, [zyr178, zyr179, zyr180, zyr181, zyr182, zyr358, zyr184, zyr185], zym9)
noncomputable def zyc430 : zC := .inr (8, [zyv120, zyv15, zyv15, zyv15, zyv120, zyv120, zyv120, zyv120, zyv15, zyv120, zyv15, zyv15, zyv124, zyv17, zyv319, zyv348, zyv166, zyv120, zyv120, zyv120, zyv15, zyv36, zyv127, zyv120, zyv15, zyv120, zyv120, zyv15, zyv15, zyv120, zyv120, zyv120, zyv120, zyv120, zyv120, zyv120, zyv120, zyv120, zyv120, zyv15, zyv120, zyv120, zyv120, zyv120, zyv15, zyv15, zyv15, zyv15, zyv120, zyv120, zyv120])
noncomputable def zyr359 : List zC := [zyc248, zyc248, zyc248, zyc240, zyc10, zyc10, zyc10, zyc12, zyc241, zyc8, zyc8, zyc241, zyc8, zyc8, zyc430, zyc250]
noncomputable def zyh417 : zH := (126, [zyr178, zyr179, zyr180, zyr181, zyr182, zyr359, zyr184, zyr185], zym9)
noncomputable def zyc431 : zC := .inr (8, [zyv120, zyv15, zyv15, zyv15, zyv120, zyv120, zyv120, zyv120, zyv15, zyv120, zyv15, zyv15, zyv124, zyv17, zyv319, zyv348, zyv122, zyv120, zyv120, zyv120, zyv15, zyv36, zyv127, zyv120, zyv15, zyv120, zyv120, zyv15, zyv15, zyv120, zyv120, zyv120, zyv120, zyv120, zyv120, zyv120, zyv120, zyv120, zyv120, zyv15, zyv120, zyv120, zyv120, zyv120, zyv15, zyv15, zyv15, zyv15, zyv120, zyv120, zyv120])
noncomputable def zyr360 : List zC := [zyc248, zyc248, zyc248, zyc240, zyc10, zyc10, zyc10, zyc12, zyc241, zyc8, zyc8, zyc241, zyc8, zyc8, zyc431, zyc250]
noncomputable def zyh418 : zH := (126, [zyr178, zyr179, zyr180, zyr181, zyr182, zyr360, zyr184, zyr185], 0)
noncomputable def zyh419 : zH := (126, [zyr178, zyr179, zyr180, zyr181, zyr182, zyr360, zyr184, zyr185], zym9)
noncomputable def zyc432 : zC := .inr (8, [zyv120, zyv15, zyv15, zyv15, zyv120, zyv120, zyv120, zyv120, zyv15, zyv120, zyv15, zyv15, zyv124, zyv17, zyv319, zyv349, zyv166, zyv120, zyv120, zyv120, zyv15, zyv36, zyv127, zyv120, zyv15, zyv120, zyv120, zyv15, zyv15, zyv120, zyv120, zyv120, zyv120, zyv120, zyv120, zyv120, zyv120, zyv120, zyv120, zyv15, zyv120, zyv120, zyv120, zyv120, zyv15, zyv15, zyv15, zyv15, zyv120, zyv120, zyv120])
noncomputable def zyr361 : List zC := [zyc248, zyc248, zyc248, zyc240, zyc10, zyc10, zyc10, zyc12, zyc241, zyc8, zyc8, zyc241, zyc8, zyc8, zyc432, zyc250]
noncomputable def zyh420 : zH := (126, [zyr178, zyr179, zyr180, zyr181, zyr182, zyr361, zyr184, zyr185], zym9)
noncomputable def zyc433 : zC := .inr (8, [zyv120, zyv15, zyv15, zyv15, zyv120, zyv120, zyv120, zyv120, zyv15, zyv120, zyv15, zyv15, zyv124, zyv17, zyv319, zyv349, zyv122, zyv120, zyv120, zyv120, zyv15, zyv36, zyv127, zyv120, zyv15, zyv120, zyv120, zyv15, zyv15, zyv120, zyv120, zyv120, zyv120, zyv120, zyv120, zyv120, zyv120, zyv120, zyv120, zyv15, zyv120, zyv120, zyv120, zyv120, zyv15, zyv15, zyv15, zyv15, zyv120, zyv120, zyv120])
noncomputable def zyr362 : List zC := [zyc248, zyc248, zyc248, zyc240, zyc10, zyc10, zyc10, zyc12, zyc241, zyc8, zyc8, zyc241, zyc8, zyc8, zyc433, zyc250]
noncomputable def zyh421 : zH := (126, [zyr178, zyr179, zyr180, zyr181, zyr182, zyr362, zyr184, zyr185], 0)
noncomputable def zyh422 : zH := (126, [zyr178, zyr179, zyr180, zyr181, zyr182, zyr362, zyr184, zyr185], zym9)
noncomputable def zyc434 : zC := .inr (8, [zyv120, zyv15, zyv15, zyv15, zyv120, zyv120, zyv120, zyv120, zyv15, zyv120, zyv15, zyv15, zyv124, zyv17, zyv319, zyv350, zyv166, zyv120, zyv120, zyv120, zyv15, zyv36, zyv127, zyv120, zyv15, zyv120, zyv120, zyv15, zyv15, zyv120, zyv120, zyv120, zyv120, zyv120, zyv120, zyv120, zyv120, zyv120, zyv120, zyv15, zyv120, zyv120, zyv120, zyv120, zyv15, zyv15, zyv15, zyv15, zyv120, zyv120, zyv120])
noncomputable def zyr363 : List zC := [zyc248, zyc248, zyc248, zyc240, zyc10, zyc10, zyc10, zyc12, zyc241, zyc8, zyc8, zyc241, zyc8, zyc8, zyc434, zyc250]
noncomputable def zyh423 : zH := (126, [zyr178, zyr179, zyr180, zyr181, zyr182, zyr363, zyr184, zyr185], zym9)
noncomputable def zyc435 : zC := .inr (8, [zyv120, zyv15, zyv15, zyv15, zyv120, zyv120, zyv120, zyv120, zyv15, zyv120, zyv15, zyv15, zyv124, zyv17, zyv319, zyv350, zyv122, zyv120, zyv120, zyv120, zyv15, zyv36, zyv127, zyv120, zyv15, zyv120, zyv120, zyv15, zyv15, zyv120, zyv120, zyv120, zyv120, zyv120, zyv120, zyv120, zyv120, zyv120, zyv120, zyv15, zyv120, zyv120, zyv120, zyv120, zyv15, zyv15, zyv15, zyv15, zyv120, zyv120, zyv120])
noncomputable def zyr364 : List zC := [zyc248, zyc248, zyc248, zyc240, zyc10, zyc10, zyc10, zyc12, zyc241, zyc8, zyc8, zyc241, zyc8, zyc8, zyc435, zyc250]
noncomputable def zyh424 : zH := (126, [zyr178, zyr179, zyr180, zyr181, zyr182, zyr364, zyr184, zyr185], 0)
noncomputable def zyh425 : zH := (126, [zyr178, zyr179, zyr180, zyr181, zyr182, zyr364, zyr184, zyr185], zym9)
noncomputable def zyc436 : zC := .inr (8, [zyv120, zyv15, zyv15, zyv15, zyv120, zyv120, zyv120, zyv120, zyv15, zyv120, zyv15, zyv15, zyv124, zyv17, zyv319, zyv351, zyv166, zyv120, zyv120, zyv120, zyv15, zyv36, zyv127, zyv120, zyv15, zyv120, zyv120, zyv15, zyv15, zyv120, zyv120, zyv120, zyv120, zyv120, zyv120, zyv120, zyv120, zyv120, zyv120, zyv15, zyv120, zyv120, zyv120, zyv120, zyv15, zyv15, zyv15, zyv15, zyv120, zyv120, zyv120])
noncomputable def zyr365 : List zC := [zyc248, zyc248, zyc248, zyc240, zyc10, zyc10, zyc10, zyc12, zyc241, zyc8, zyc8, zyc241, zyc8, zyc8, zyc436, zyc250]
noncomputable def zyh426 : zH := (126, [zyr178, zyr179, zyr180, zyr181, zyr182, zyr365, zyr184, zyr185], zym9)
noncomputable def zyc437 : zC := .inr (8, [zyv120, zyv15, zyv15, zyv15, zyv120, zyv120, zyv120, zyv120, zyv15, zyv120, zyv15, zyv15, zyv124, zyv17, zyv319, zyv351, zyv122, zyv120, zyv120, zyv120, zyv15, zyv36, zyv127, zyv120, zyv15, zyv120, zyv120, zyv15, zyv15, zyv120, zyv120, zyv120, zyv120, zyv120, zyv120, zyv120, zyv120, zyv120, zyv120, zyv15, zyv120, zyv120, zyv120, zyv120, zyv15, zyv15, zyv15, zyv15, zyv120, zyv120, zyv120])
noncomputable def zyr366 : List zC := [zyc248, zyc248, zyc248, zyc240, zyc10, zyc10, zyc10, zyc12, zyc241, zyc8, zyc8, zyc241, zyc8, zyc8, zyc437, zyc250]
noncomputable def zyh427 : zH := (126, [zyr178, zyr179, zyr180, zyr181, zyr182, zyr366, zyr184, zyr185], 0)
noncomputable def zyh428 : zH := (126, [zyr178, zyr179, zyr180, zyr181, zyr182, zyr366, zyr184, zyr185], zym9)
noncomputable def zyc438 : zC := .inr (8, [zyv120, zyv15, zyv15, zyv15, zyv120, zyv120, zyv120, zyv120, zyv15, zyv120, zyv15, zyv15, zyv124, zyv17, zyv319, zyv352, zyv166, zyv120, zyv120, zyv120, zyv15, zyv36, zyv127, zyv120, zyv15, zyv120, zyv120, zyv15, zyv15, zyv120, zyv120, zyv120, zyv120, zyv120, zyv120, zyv120, zyv120, zyv120, zyv120, zyv15, zyv120, zyv120, zyv120, zyv120, zyv15, zyv15, zyv15, zyv15, zyv120, zyv120, zyv120])
noncomputable def zyr367 : List zC := [zyc248, zyc248, zyc248, zyc240, zyc10, zyc10, zyc10, zyc12, zyc241, zyc8, zyc8, zyc241, zyc8, zyc8, zyc438, zyc250]
noncomputable def zyh429 : zH := (126, [zyr178, zyr179, zyr180, zyr181, zyr182, zyr367, zyr184, zyr185], zym9)
noncomputable def zyc439 : zC := .inr (8, [zyv120, zyv15, zyv15, zyv15, zyv120, zyv120, zyv120, zyv120, zyv15, zyv120, zyv15, zyv15, zyv124, zyv17, zyv319, zyv352, zyv122, zyv120, zyv120, zyv120, zyv15, zyv36, zyv127, zyv120, zyv15, zyv120, zyv120, zyv15, zyv15, zyv120, zyv120, zyv120, zyv120, zyv120, zyv120, zyv120, zyv120, zyv120, zyv120, zyv15, zyv120, zyv120, zyv120, zyv120, zyv15, zyv15, zyv15, zyv15, zyv120, zyv120, zyv120])
noncomputable def zyr368 : List zC := [zyc248, zyc248, zyc248, zyc240, zyc10, zyc10, zyc10, zyc12, zyc241, zyc8, zyc8, zyc241, zyc8, zyc8, zyc439, zyc250]
noncomputable def zyh430 : zH := (126, [zyr178, zyr179, zyr180, zyr181, zyr182, zyr368, zyr184, zyr185], 0)
noncomputable def zyh431 : zH := (126, [zyr178, zyr179, zyr180, zyr181, zyr182, zyr368, zyr184, zyr185], zym9)
noncomputable def zyc440 : zC := .inr (8, [zyv120, zyv15, zyv15, zyv15, zyv120, zyv120, zyv120, zyv120, zyv15, zyv120, zyv15, zyv15, zyv124, zyv17, zyv319, zyv353, zyv166, zyv120, zyv120, zyv120, zyv15, zyv36, zyv127, zyv120, zyv15, zyv120, zyv120, zyv15, zyv15, zyv120, zyv120, zyv120, zyv120, zyv120, zyv120, zyv120, zyv120, zyv120, zyv120, zyv15, zyv120, zyv120, zyv120, zyv120, zyv15, zyv15, zyv15, zyv15, zyv120, zyv120, zyv120])
noncomputable def zyr369 : List zC := [zyc248, zyc248, zyc248, zyc240, zyc10, zyc10, zyc10, zyc12, zyc241, zyc8, zyc8, zyc241, zyc8, zyc8, zyc440, zyc250]
noncomputable def zyh432 : zH := (126, [zyr178, zyr179, zyr180, zyr181, zyr182, zyr369, zyr184, zyr185], zym9)
noncomputable def zyc441 : zC := .inr (8, [zyv120, zyv15, zyv15, zyv15, zyv120, zyv120, zyv120, zyv120, zyv15, zyv120, zyv15, zyv15, zyv124, zyv17, zyv319, zyv353, zyv122, zyv120, zyv120, zyv120, zyv15, zyv36, zyv127, zyv120, zyv15, zyv120, zyv120, zyv15, zyv15, zyv120, zyv120, zyv120, zyv120, zyv120, zyv120, zyv120, zyv120, zyv120, zyv120, zyv15, zyv120, zyv120, zyv120, zyv120, zyv15, zyv15, zyv15, zyv15, zyv120, zyv120, zyv120])
noncomputable def zyr370 : List zC := [zyc248, zyc248, zyc248, zyc240, zyc10, zyc10, zyc10, zyc12, zyc241, zyc8, zyc8, zyc241, zyc8, zyc8, zyc441, zyc250]
noncomputable def zyh433 : zH := (126, [zyr178, zyr179, zyr180, zyr181, zyr182, zyr370, zyr184, zyr185], 0)
noncomputable def zyh434 : zH := (126, [zyr178, zyr179, zyr180, zyr181, zyr182, zyr370, zyr184, zyr185], zym9)
noncomputable def zyc442 : zC := .inr (8, [zyv120, zyv15, zyv15, zyv15, zyv120, zyv120, zyv120, zyv120, zyv15, zyv120, zyv15, zyv15, zyv124, zyv17, zyv319, zyv354, zyv166, zyv120, zyv120, zyv120, zyv15, zyv36, zyv127, zyv120, zyv15, zyv120, zyv120, zyv15, zyv15, zyv120, zyv120, zyv120, zyv120, zyv120, zyv120, zyv120, zyv120, zyv120, zyv120, zyv15, zyv120, zyv120, zyv120, zyv120, zyv15, zyv15, zyv15, zyv15, zyv120, zyv120, zyv120])
noncomputable def zyr371 : List zC := [zyc248, zyc248, zyc248, zyc240, zyc10, zyc10, zyc10, zyc12, zyc241, zyc8, zyc8, zyc241, zyc8, zyc8, zyc442, zyc250]
noncomputable def zyh435 : zH := (126, [zyr178, zyr179, zyr180, zyr181, zyr182, zyr371, zyr184, zyr185], zym9)
noncomputable def zyc443 : zC := .inr (8, [zyv120, zyv15, zyv15, zyv15, zyv120, zyv120, zyv120, zyv120, zyv15, zyv120, zyv15, zyv15, zyv124, zyv17, zyv319, zyv354, zyv122, zyv120, zyv120, zyv120, zyv15, zyv36, zyv127, zyv120, zyv15, zyv120, zyv120, zyv15, zyv15, zyv120, zyv120, zyv120, zyv120, zyv120, zyv120, zyv120, zyv120, zyv120, zyv120, zyv15, zyv120, zyv120, zyv120, zyv120, zyv15, zyv15, zyv15, zyv15, zyv120, zyv120, zyv120])
noncomputable def zyr372 : List zC := [zyc248, zyc248, zyc248, zyc240, zyc10, zyc10, zyc10, zyc12, zyc241, zyc8, zyc8, zyc241, zyc8, zyc8, zyc443, zyc250]
noncomputable def zyh436 : zH := (126, [zyr178, zyr179, zyr180, zyr181, zyr182, zyr372, zyr184, zyr185], 0)
noncomputable def zyh437 : zH := (126, [zyr178, zyr179, zyr180, zyr181, zyr182, zyr372, zyr184, zyr185], zym9)
noncomputable def zyc444 : zC := .inr (8, [zyv120, zyv15, zyv15, zyv15, zyv120, zyv120, zyv120, zyv120, zyv15, zyv120, zyv15, zyv15, zyv124, zyv17, zyv319, zyv355, zyv166, zyv120, zyv120, zyv120, zyv15, zyv36, zyv127, zyv120, zyv15, zyv120, zyv120, zyv15, zyv15, zyv120, zyv120, zyv120, zyv120, zyv120, zyv120, zyv120, zyv120, zyv120, zyv120, zyv15, zyv120, zyv120, zyv120, zyv120, zyv15, zyv15, zyv15, zyv15, zyv120, zyv120, zyv120])
noncomputable def zyr373 : List zC := [zyc248, zyc248, zyc248, zyc240, zyc10, zyc10, zyc10, zyc12, zyc241, zyc8, zyc8, zyc241, zyc8, zyc8, zyc444, zyc250]
noncomputable def zyh438 : zH := (126, [zyr178, zyr179, zyr180, zyr181, zyr182, zyr373, zyr184, zyr185], zym9)
noncomputable def zyc445 : zC := .inr (8, [zyv120, zyv15, zyv15, zyv15, zyv120, zyv120, zyv120, zyv120, zyv15, zyv120, zyv15, zyv15, zyv124, zyv17, zyv319, zyv355, zyv122, zyv120, zyv120, zyv120, zyv15, zyv36, zyv127, zyv120, zyv15, zyv120, zyv120, zyv15, zyv15, zyv120, zyv120, zyv120, zyv120, zyv120, zyv120, zyv120, zyv120, zyv120, zyv120, zyv15, zyv120, zyv120, zyv120, zyv120, zyv15, zyv15, zyv15, zyv15, zyv120, zyv120, zyv120])
noncomputable def zyr374 : List zC := [zyc248, zyc248, zyc248, zyc240, zyc10, zyc10, zyc10, zyc12, zyc241, zyc8, zyc8, zyc241, zyc8, zyc8, zyc445, zyc250]
noncomputable def zyh439 : zH := (126, [zyr178, zyr179, zyr180, zyr181, zyr182, zyr374, zyr184, zyr185], 0)
noncomputable def zyh440 : zH := (126, [zyr178, zyr179, zyr180, zyr181, zyr182, zyr374, zyr184, zyr185], zym9)
noncomputable def zyc446 : zC := .inr (8, [zyv120, zyv15, zyv15, zyv15, zyv120, zyv120, zyv120, zyv120, zyv15, zyv120, zyv15, zyv15, zyv124, zyv17, zyv319, zyv356, zyv166, zyv120, zyv120, zyv120, zyv15, zyv36, zyv127, zyv120, zyv15, zyv120, zyv120, zyv15, zyv15, zyv120, zyv120, zyv120, zyv120, zyv120, zyv120, zyv120, zyv120, zyv120, zyv120, zyv15, zyv120, zyv120, zyv120, zyv120, zyv15, zyv15, zyv15, zyv15, zyv120, zyv120, zyv120])
noncomputable def zyr375 : List zC := [zyc248, zyc248, zyc248, zyc240, zyc10, zyc10, zyc10, zyc12, zyc241, zyc8, zyc8, zyc241, zyc8, zyc8, zyc446, zyc250]
noncomputable def zyh441 : zH := (126, [zyr178, zyr179, zyr180, zyr181, zyr182, zyr375, zyr184, zyr185], zym9)
noncomputable def zyc447 : zC := .inr (8, [zyv120, zyv15, zyv15, zyv15, zyv120, zyv120, zyv120, zyv120, zyv15, zyv120, zyv15, zyv15, zyv124, zyv17, zyv319, zyv356, zyv122, zyv120, zyv120, zyv120, zyv15, zyv36, zyv127, zyv120, zyv15, zyv120, zyv120, zyv15, zyv15, zyv120, zyv120, zyv120, zyv120, zyv120, zyv120, zyv120, zyv120, zyv120, zyv120, zyv15, zyv120, zyv120, zyv120, zyv120, zyv15, zyv15, zyv15, zyv15, zyv120, zyv120, zyv120])
noncomputable def zyr376 : List zC := [zyc248, zyc248, zyc248, zyc240, zyc10, zyc10, zyc10, zyc12, zyc241, zyc8, zyc8, zyc241, zyc8, zyc8, zyc447, zyc250]
noncomputable def zyh442 : zH := (126, [zyr178, zyr179, zyr180, zyr181, zyr182, zyr376, zyr184, zyr185], 0)
noncomputable def zyh443 : zH := (126, [zyr178, zyr179, zyr180, zyr181, zyr182, zyr376, zyr184, zyr185], zym9)
noncomputable def zyc448 : zC := .inr (8, [zyv120, zyv15, zyv15, zyv15, zyv120, zyv120, zyv120, zyv120, zyv15, zyv120, zyv15, zyv15, zyv124, zyv17, zyv319, zyv357, zyv166, zyv120, zyv120, zyv120, zyv15, zyv36, zyv127, zyv120, zyv15, zyv120, zyv120, zyv15, zyv15, zyv120, zyv120, zyv120, zyv120, zyv120, zyv120, zyv120, zyv120, zyv120, zyv120, zyv15, zyv120, zyv120, zyv120, zyv120, zyv15, zyv15, zyv15, zyv15, zyv120, zyv120, zyv120])
noncomputable def zyr377 : List zC := [zyc248, zyc248, zyc248, zyc240, zyc10, zyc10, zyc10, zyc12, zyc241, zyc8, zyc8, zyc241, zyc8, zyc8, zyc448, zyc250]
noncomputable def zyh444 : zH := (126, [zyr178, zyr179, zyr180, zyr181, zyr182, zyr377, zyr184, zyr185], zym9)
noncomputable def zyc449 : zC := .inr (8, [zyv120, zyv15, zyv15, zyv15, zyv120, zyv120, zyv120, zyv120, zyv15, zyv120, zyv15, zyv15, zyv124, zyv17, zyv319, zyv357, zyv122, zyv120, zyv120, zyv120, zyv15, zyv36, zyv127, zyv120, zyv15, zyv120, zyv120, zyv15, zyv15, zyv120, zyv120, zyv120, zyv120, zyv120, zyv120, zyv120, zyv120, zyv120, zyv120, zyv15, zyv120, zyv120, zyv120, zyv120, zyv15, zyv15, zyv15, zyv15, zyv120, zyv120, zyv120])
noncomputable def zyr378 : List zC := [zyc248, zyc248, zyc248, zyc240, zyc10, zyc10, zyc10, zyc12, zyc241, zyc8, zyc8, zyc241, zyc8, zyc8, zyc449, zyc250]
noncomputable def zyh445 : zH := (126, [zyr178, zyr179, zyr180, zyr181, zyr182, zyr378, zyr184, zyr185], 0)
noncomputable def zyh446 : zH := (126, [zyr178, zyr179, zyr180, zyr181, zyr182, zyr378, zyr184, zyr185], zym9)
noncomputable def zyc450 : zC := .inr (8, [zyv120, zyv15, zyv15, zyv15, zyv120, zyv120, zyv120, zyv120, zyv15, zyv120, zyv15, zyv15, zyv124, zyv17, zyv319, zyv358, zyv166, zyv120, zyv120, zyv120, zyv15, zyv36, zyv127, zyv120, zyv15, zyv120, zyv120, zyv15, zyv15, zyv120, zyv120, zyv120, zyv120, zyv120, zyv120, zyv120, zyv120, zyv120, zyv120, zyv15, zyv120, zyv120, zyv120, zyv120, zyv15, zyv15, zyv15, zyv15, zyv120, zyv120, zyv120])
noncomputable def zyr379 : List zC := [zyc248, zyc248, zyc248, zyc240, zyc10, zyc10, zyc10, zyc12, zyc241, zyc8, zyc8, zyc241, zyc8, zyc8, zyc450, zyc250]
noncomputable def zyh447 : zH := (126, [zyr178, zyr179, zyr180, zyr181, zyr182, zyr379, zyr184, zyr185], zym9)
noncomputable def zyc451 : zC := .inr (8, [zyv120, zyv15, zyv15, zyv15, zyv120, zyv120, zyv120, zyv120, zyv15, zyv120, zyv15, zyv15, zyv124, zyv17, zyv319, zyv358, zyv122, zyv120, zyv120, zyv120, zyv15, zyv36, zyv127, zyv120, zyv15, zyv120, zyv120, zyv15, zyv15, zyv120, zyv120, zyv120, zyv120, zyv120, zyv120, zyv120, zyv120, zyv120, zyv120, zyv15, zyv120, zyv120, zyv120, zyv120, zyv15, zyv15, zyv15, zyv15, zyv120, zyv120, zyv120])
noncomputable def zyr380 : List zC := [zyc248, zyc248, zyc248, zyc240, zyc10, zyc10, zyc10, zyc12, zyc241, zyc8, zyc8, zyc241, zyc8, zyc8, zyc451, zyc250]
noncomputable def zyh448 : zH := (126, [zyr178, zyr179, zyr180, zyr181, zyr182, zyr380, zyr184, zyr185], 0)
noncomputable def zyh449 : zH := (126, [zyr178, zyr179, zyr180, zyr181, zyr182, zyr380, zyr184, zyr185], zym9)
noncomputable def zyc452 : zC := .inr (8, [zyv120, zyv15, zyv15, zyv15, zyv120, zyv120, zyv120, zyv120, zyv15, zyv120, zyv15, zyv15, zyv124, zyv17, zyv319, zyv359, zyv166, zyv120, zyv120, zyv120, zyv15, zyv36, zyv127, zyv120, zyv15, zyv120, zyv120, zyv15, zyv15, zyv120, zyv120, zyv120, zyv120, zyv120, zyv120, zyv120, zyv120, zyv120, zyv120, zyv15, zyv120, zyv120, zyv120, zyv120, zyv15, zyv15, zyv15, zyv15, zyv120, zyv120, zyv120])
noncomputable def zyr381 : List zC := [zyc248, zyc248, zyc248, zyc240, zyc10, zyc10, zyc10, zyc12, zyc241, zyc8, zyc8, zyc241, zyc8, zyc8, zyc452, zyc250]
noncomputable def zyh450 : zH := (126, [zyr178, zyr179, zyr180, zyr181, zyr182, zyr381, zyr184, zyr185], zym9)
noncomputable def zyc453 : zC := .inr (8, [zyv120, zyv15, zyv15, zyv15, zyv120, zyv120, zyv120, zyv120, zyv15, zyv120, zyv15, zyv15, zyv124, zyv17, zyv319, zyv359, zyv122, zyv120, zyv120, zyv120, zyv15, zyv36, zyv127, zyv120, zyv15, zyv120, zyv120, zyv15, zyv15, zyv120, zyv120, zyv120, zyv120, zyv120, zyv120, zyv120, zyv120, zyv120, zyv120, zyv15, zyv120, zyv120, zyv120, zyv120, zyv15, zyv15, zyv15, zyv15, zyv120, zyv120, zyv120])
noncomputable def zyr382 : List zC := [zyc248, zyc248, zyc248, zyc240, zyc10, zyc10, zyc10, zyc12, zyc241, zyc8, zyc8, zyc241, zyc8, zyc8, zyc453, zyc250]
noncomputable def zyh451 : zH := (126, [zyr178, zyr179, zyr180, zyr181, zyr182, zyr382, zyr184, zyr185], 0)
noncomputable def zyh452 : zH := (126, [zyr178, zyr179, zyr180, zyr181, zyr182, zyr382, zyr184, zyr185], zym9)
noncomputable def zyc454 : zC := .inr (8, [zyv120, zyv15, zyv15, zyv15, zyv120, zyv120, zyv120, zyv120, zyv15, zyv120, zyv15, zyv15, zyv124, zyv17, zyv319, zyv360, zyv166, zyv120, zyv120, zyv120, zyv15, zyv36, zyv127, zyv120, zyv15, zyv120, zyv120, zyv15, zyv15, zyv120, zyv120, zyv120, zyv120, zyv120, zyv120, zyv120, zyv120, zyv120, zyv120, zyv15, zyv120, zyv120, zyv120, zyv120, zyv15, zyv15, zyv15, zyv15, zyv120, zyv120, zyv120])
noncomputable def zyr383 : List zC := [zyc248, zyc248, zyc248, zyc240, zyc10, zyc10, zyc10, zyc12, zyc241, zyc8, zyc8, zyc241, zyc8, zyc8, zyc454, zyc250]
noncomputable def zyh453 : zH := (126, [zyr178, zyr179, zyr180, zyr181, zyr182, zyr383, zyr184, zyr185], zym9)
noncomputable def zyc455 : zC := .inr (8, [zyv120, zyv15, zyv15, zyv15, zyv120, zyv120, zyv120, zyv120, zyv15, zyv120, zyv15, zyv15, zyv124, zyv17, zyv319, zyv360, zyv122, zyv120, zyv120, zyv120, zyv15, zyv36, zyv127, zyv120, zyv15, zyv120, zyv120, zyv15, zyv15, zyv120, zyv120, zyv120, zyv120, zyv120, zyv120, zyv120, zyv120, zyv120, zyv120, zyv15, zyv120, zyv120, zyv120, zyv120, zyv15, zyv15, zyv15, zyv15, zyv120, zyv120, zyv120])
noncomputable def zyr384 : List zC := [zyc248, zyc248, zyc248, zyc240, zyc10, zyc10, zyc10, zyc12, zyc241, zyc8, zyc8, zyc241, zyc8, zyc8, zyc455, zyc250]
noncomputable def zyh454 : zH := (126, [zyr178, zyr179, zyr180, zyr181, zyr182, zyr384, zyr184, zyr185], 0)
noncomputable def zyh455 : zH := (126, [zyr178, zyr179, zyr180, zyr181, zyr182, zyr384, zyr184, zyr185], zym9)
noncomputable def zyc456 : zC := .inr (8, [zyv120, zyv15, zyv15, zyv15, zyv120, zyv120, zyv120, zyv120, zyv15, zyv120, zyv15, zyv15, zyv124, zyv17, zyv319, zyv361, zyv166, zyv120, zyv120, zyv120, zyv15, zyv36, zyv127, zyv120, zyv15, zyv120, zyv120, zyv15, zyv15, zyv120, zyv120, zyv120, zyv120, zyv120, zyv120, zyv120, zyv120, zyv120, zyv120, zyv15, zyv120, zyv120, zyv120, zyv120, zyv15, zyv15, zyv15, zyv15, zyv120, zyv120, zyv120])
noncomputable def zyr385 : List zC := [zyc248, zyc248, zyc248, zyc240, zyc10, zyc10, zyc10, zyc12, zyc241, zyc8, zyc8, zyc241, zyc8, zyc8, zyc456, zyc250]
noncomputable def zyh456 : zH := (126, [zyr178, zyr179, zyr180, zyr181, zyr182, zyr385, zyr184, zyr185], zym9)
noncomputable def zyc457 : zC := .inr (8, [zyv120, zyv15, zyv15, zyv15, zyv120, zyv120, zyv120, zyv120, zyv15, zyv120, zyv15, zyv15, zyv124, zyv17, zyv319, zyv361, zyv122, zyv120, zyv120, zyv120, zyv15, zyv36, zyv127, zyv120, zyv15, zyv120, zyv120, zyv15, zyv15, zyv120, zyv120, zyv120, zyv120, zyv120, zyv120, zyv120, zyv120, zyv120, zyv120, zyv15, zyv120, zyv120, zyv120, zyv120, zyv15, zyv15, zyv15, zyv15, zyv120, zyv120, zyv120])
noncomputable def zyr386 : List zC := [zyc248, zyc248, zyc248, zyc240, zyc10, zyc10, zyc10, zyc12, zyc241, zyc8, zyc8, zyc241, zyc8, zyc8, zyc457, zyc250]
noncomputable def zyh457 : zH := (126, [zyr178, zyr179, zyr180, zyr181, zyr182, zyr386, zyr184, zyr185], 0)
noncomputable def zyh458 : zH := (126, [zyr178, zyr179, zyr180, zyr181, zyr182, zyr386, zyr184, zyr185], zym9)
noncomputable def zyc458 : zC := .inr (8, [zyv120, zyv15, zyv15, zyv15, zyv120, zyv120, zyv120, zyv120, zyv15, zyv120, zyv15, zyv15, zyv124, zyv17, zyv319, zyv319, zyv166, zyv120, zyv120, zyv120, zyv15, zyv36, zyv127, zyv120, zyv15, zyv120, zyv120, zyv15, zyv15, zyv120, zyv120, zyv120, zyv120, zyv120, zyv120, zyv120, zyv120, zyv120, zyv120, zyv15, zyv120, zyv120, zyv120, zyv120, zyv15, zyv15, zyv15, zyv15, zyv120, zyv120, zyv120])
noncomputable def zyr387 : List zC := [zyc248, zyc248, zyc248, zyc240, zyc10, zyc10, zyc10, zyc12, zyc241, zyc8, zyc8, zyc241, zyc8, zyc8, zyc458, zyc250]
noncomputable def zyh459 : zH := (126, [zyr178, zyr179, zyr180, zyr181, zyr182, zyr387, zyr184, zyr185], zym9)
noncomputable def zyc459 : zC := .inr (8, [zyv120, zyv15, zyv15, zyv15, zyv120, zyv120, zyv120, zyv120, zyv15, zyv120, zyv15, zyv15, zyv124, zyv17, zyv319, zyv319, zyv122, zyv120, zyv120, zyv120, zyv15, zyv36, zyv127, zyv120, zyv15, zyv120, zyv120, zyv15, zyv15, zyv120, zyv120, zyv120, zyv120, zyv120, zyv120, zyv120, zyv120, zyv120, zyv120, zyv15, zyv120, zyv120, zyv120, zyv120, zyv15, zyv15, zyv15, zyv15, zyv120, zyv120, zyv120])
noncomputable def zyr388 : List zC := [zyc248, zyc248, zyc248, zyc240, zyc10, zyc10, zyc10, zyc12, zyc241, zyc8, zyc8, zyc241, zyc8, zyc8, zyc459, zyc250]
noncomputable def zyh460 : zH := (126, [zyr178, zyr179, zyr180, zyr181, zyr182, zyr388, zyr184, zyr185], 0)
noncomputable def zyh461 : zH := (126, [zyr178, zyr179, zyr180, zyr181, zyr182, zyr388, zyr184, zyr185], zym9)
noncomputable def zyc460 : zC := .inr (8, [zyv120, zyv15, zyv15, zyv15, zyv120, zyv120, zyv120, zyv120, zyv15, zyv120, zyv15, zyv15, zyv124, zyv17, zyv319, zyv361, zyv17, zyv120, zyv120, zyv120, zyv15, zyv36, zyv127, zyv120, zyv15, zyv120, zyv120, zyv15, zyv15, zyv120, zyv120, zyv120, zyv120, zyv120, zyv120, zyv120, zyv120, zyv120, zyv120, zyv15, zyv120, zyv120, zyv120, zyv120, zyv15, zyv15, zyv15, zyv15, zyv120, zyv120, zyv120])
noncomputable def zyr389 : List zC := [zyc248, zyc248, zyc248, zyc240, zyc10, zyc10, zyc10, zyc12, zyc241, zyc8, zyc8, zyc241, zyc8, zyc8, zyc460, zyc250]
noncomputable def zyh462 : zH := (126, [zyr178, zyr179, zyr180, zyr181, zyr182, zyr389, zyr184, zyr185], zym9)
noncomputable def zyc461 : zC := .inr (8, [zyv120, zyv15, zyv15, zyv15, zyv120, zyv120, zyv120, zyv120, zyv15, zyv120, zyv15, zyv15, zyv124, zyv17, zyv319, zyv360, zyv17, zyv120, zyv120, zyv120, zyv15, zyv36, zyv127, zyv120, zyv15, zyv120, zyv120, zyv15, zyv15, zyv120, zyv120, zyv120, zyv120, zyv120, zyv120, zyv120, zyv120, zyv120, zyv120, zyv15, zyv120, zyv120, zyv120, zyv120, zyv15, zyv15, zyv15, zyv15, zyv120, zyv120, zyv120])
noncomputable def zyr390 : List zC := [zyc248, zyc248, zyc248, zyc240, zyc10, zyc10, zyc10, zyc12, zyc241, zyc8, zyc8, zyc241, zyc8, zyc8, zyc461, zyc250]
noncomputable def zyh463 : zH := (126, [zyr178, zyr179, zyr180, zyr181, zyr182, zyr390, zyr184, zyr185], zym9)
noncomputable def zyc462 : zC := .inr (8, [zyv120, zyv15, zyv15, zyv15, zyv120, zyv120, zyv120, zyv120, zyv15, zyv120, zyv15, zyv15, zyv124, zyv17, zyv319, zyv359, zyv17, zyv120, zyv120, zyv120, zyv15, zyv36, zyv127, zyv120, zyv15, zyv120, zyv120, zyv15, zyv15, zyv120, zyv120, zyv120, zyv120, zyv120, zyv120, zyv120, zyv120, zyv120, zyv120, zyv15, zyv120, zyv120, zyv120, zyv120, zyv15, zyv15, zyv15, zyv15, zyv120, zyv120, zyv120])
noncomputable def zyr391 : List zC := [zyc248, zyc248, zyc248, zyc240, zyc10, zyc10, zyc10, zyc12, zyc241, zyc8, zyc8, zyc241, zyc8, zyc8, zyc462, zyc250]
noncomputable def zyh464 : zH := (126, [zyr178, zyr179, zyr180, zyr181, zyr182, zyr391, zyr184, zyr185], zym9)
noncomputable def zyc463 : zC := .inr (8, [zyv120, zyv15, zyv15, zyv15, zyv120, zyv120, zyv120, zyv120, zyv15, zyv120, zyv15, zyv15, zyv124, zyv17, zyv319, zyv358, zyv17, zyv120, zyv120, zyv120, zyv15, zyv36, zyv127, zyv120, zyv15, zyv120, zyv120, zyv15, zyv15, zyv120, zyv120, zyv120, zyv120, zyv120, zyv120, zyv120, zyv120, zyv120, zyv120, zyv15, zyv120, zyv120, zyv120, zyv120, zyv15, zyv15, zyv15, zyv15, zyv120, zyv120, zyv120])
noncomputable def zyr392 : List zC := [zyc248, zyc248, zyc248, zyc240, zyc10, zyc10, zyc10, zyc12, zyc241, zyc8, zyc8, zyc241, zyc8, zyc8, zyc463, zyc250]
noncomputable def zyh465 : zH := (126, [zyr178, zyr179, zyr180, zyr181, zyr182, zyr392, zyr184, zyr185], zym9)
noncomputable def zyc464 : zC := .inr (8, [zyv120, zyv15, zyv15, zyv15, zyv120, zyv120, zyv120, zyv120, zyv15, zyv120, zyv15, zyv15, zyv124, zyv17, zyv319, zyv357, zyv17, zyv120, zyv120, zyv120, zyv15, zyv36, zyv127, zyv120, zyv15, zyv120, zyv120, zyv15, zyv15, zyv120, zyv120, zyv120, zyv120, zyv120, zyv120, zyv120, zyv120, zyv120, zyv120, zyv15, zyv120, zyv120, zyv120, zyv120, zyv15, zyv15, zyv15, zyv15, zyv120, zyv120, zyv120])
noncomputable def zyr393 : List zC := [zyc248, zyc248, zyc248, zyc240, zyc10, zyc10, zyc10, zyc12, zyc241, zyc8, zyc8, zyc241, zyc8, zyc8, zyc464, zyc250]
noncomputable def zyh466 : zH := (126, [zyr178, zyr179, zyr180, zyr181, zyr182, zyr393, zyr184, zyr185], zym9)
noncomputable def zyc465 : zC := .inr (8, [zyv120, zyv15, zyv15, zyv15, zyv120, zyv120, zyv120, zyv120, zyv15, zyv120, zyv15, zyv15, zyv124, zyv17, zyv319, zyv356, zyv17, zyv120, zyv120, zyv120, zyv15, zyv36, zyv127, zyv120, zyv15, zyv120, zyv120, zyv15, zyv15, zyv120, zyv120, zyv120, zyv120, zyv120, zyv120, zyv120, zyv120, zyv120, zyv120, zyv15, zyv120, zyv120, zyv120, zyv120, zyv15, zyv15, zyv15, zyv15, zyv120, zyv120, zyv120])
noncomputable def zyr394 : List zC := [zyc248, zyc248, zyc248, zyc240, zyc10, zyc10, zyc10, zyc12, zyc241, zyc8, zyc8, zyc241, zyc8, zyc8, zyc465, zyc250]
noncomputable def zyh467 : zH := (126, [zyr178, zyr179, zyr180, zyr181, zyr182, zyr394, zyr184, zyr185], zym9)
noncomputable def zyc466 : zC := .inr (8, [zyv120, zyv15, zyv15, zyv15, zyv120, zyv120, zyv120, zyv120, zyv15, zyv120, zyv15, zyv15, zyv124, zyv17, zyv319, zyv355, zyv17, zyv120, zyv120, zyv120, zyv15, zyv36, zyv127, zyv120, zyv15, zyv120, zyv120, zyv15, zyv15, zyv120, zyv120, zyv120, zyv120, zyv120, zyv120, zyv120, zyv120, zyv120, zyv120, zyv15, zyv120, zyv120, zyv120, zyv120, zyv15, zyv15, zyv15, zyv15, zyv120, zyv120, zyv120])
noncomputable def zyr395 : List zC := [zyc248, zyc248, zyc248, zyc240, zyc10, zyc10, zyc10, zyc12, zyc241, zyc8, zyc8, zyc241, zyc8, zyc8, zyc466, zyc250]
noncomputable def zyh468 : zH := (126, [zyr178, zyr179, zyr180, zyr181, zyr182, zyr395, zyr184, zyr185], zym9)
noncomputable def zyc467 : zC := .inr (8, [zyv120, zyv15, zyv15, zyv15, zyv120, zyv120, zyv120, zyv120, zyv15, zyv120, zyv15, zyv15, zyv124, zyv17, zyv319, zyv354, zyv17, zyv120, zyv120, zyv120, zyv15, zyv36, zyv127, zyv120, zyv15, zyv120, zyv120, zyv15, zyv15, zyv120, zyv120, zyv120, zyv120, zyv120, zyv120, zyv120, zyv120, zyv120, zyv120, zyv15, zyv120, zyv120, zyv120, zyv120, zyv15, zyv15, zyv15, zyv15, zyv120, zyv120, zyv120])
noncomputable def zyr396 : List zC := [zyc248, zyc248, zyc248, zyc240, zyc10, zyc10, zyc10, zyc12, zyc241, zyc8, zyc8, zyc241, zyc8, zyc8, zyc467, zyc250]
noncomputable def zyh469 : zH := (126, [zyr178, zyr179, zyr180, zyr181, zyr182, zyr396, zyr184, zyr185], zym9)
noncomputable def zyc468 : zC := .inr (8, [zyv120, zyv15, zyv15, zyv15, zyv120, zyv120, zyv120, zyv120, zyv15, zyv120, zyv15, zyv15, zyv124, zyv17, zyv319, zyv353, zyv17, zyv120, zyv120, zyv120, zyv15, zyv36, zyv127, zyv120, zyv15, zyv120, zyv120, zyv15, zyv15, zyv120, zyv120, zyv120, zyv120, zyv120, zyv120, zyv120, zyv120, zyv120, zyv120, zyv15, zyv120, zyv120, zyv120, zyv120, zyv15, zyv15, zyv15, zyv15, zyv120, zyv120, zyv120])
noncomputable def zyr397 : List zC := [zyc248, zyc248, zyc248, zyc240, zyc10, zyc10, zyc10, zyc12, zyc241, zyc8, zyc8, zyc241, zyc8, zyc8, zyc468, zyc250]
noncomputable def zyh470 : zH := (126, [zyr178, zyr179, zyr180, zyr181, zyr182, zyr397, zyr184, zyr185], zym9)
/-! X8_passes -/
noncomputable def zyx301a : List zAV := [zyv320, zyv321]
noncomputable def zyx301q : List (Option zAV × zH) := [(some (.inl ((.ofNat 0, .ofNat 0), none)), zyh344), (some (.inl ((.ofNat 1, .ofNat 1), none)), zyh345)]
noncomputable def zyx301d : zKw := (263, 2, 3, 420, zyx301a, zyh343, zyx301q)
noncomputable def zbzyx301e : Bool := zrunw zprog2 (zovW []) 100000 zcut0 3 420 kX8_passes (zkinL zyx301q) 0 (zargs 0 zyx301a, [], (zyh343.1, zyh343.2.1, 0), 0, 0)
/-! X8_passes -/
noncomputable def zyx302a : List zAV := [zyv320, zyv323]
noncomputable def zyx302q : List (Option zAV × zH) := [(some (.inl ((.ofNat 0, .ofNat 0), none)), zyh347), (some (.inl ((.ofNat 1, .ofNat 1), none)), zyh348)]
noncomputable def zyx302d : zKw := (263, 2, 3, 420, zyx302a, zyh346, zyx302q)
noncomputable def zbzyx302e : Bool := zrunw zprog2 (zovW []) 100000 zcut0 3 420 kX8_passes (zkinL zyx302q) 0 (zargs 0 zyx302a, [], (zyh346.1, zyh346.2.1, 0), 0, 0)
/-! X8_passes -/
noncomputable def zyx303a : List zAV := [zyv320, zyv323]
noncomputable def zyx303q : List (Option zAV × zH) := [(some (.inl ((.ofNat 0, .ofNat 0), none)), zyh350), (some (.inl ((.ofNat 1, .ofNat 1), none)), zyh351)]
noncomputable def zyx303d : zKw := (263, 2, 3, 420, zyx303a, zyh349, zyx303q)
noncomputable def zbzyx303e : Bool := zrunw zprog2 (zovW []) 100000 zcut0 3 420 kX8_passes (zkinL zyx303q) 0 (zargs 0 zyx303a, [], (zyh349.1, zyh349.2.1, 0), 0, 0)
/-! X8_passes -/
noncomputable def zyx304a : List zAV := [zyv320, zyv323]
noncomputable def zyx304q : List (Option zAV × zH) := [(some (.inl ((.ofNat 0, .ofNat 0), none)), zyh353), (some (.inl ((.ofNat 1, .ofNat 1), none)), zyh354)]
noncomputable def zyx304d : zKw := (263, 2, 3, 420, zyx304a, zyh352, zyx304q)
noncomputable def zbzyx304e : Bool := zrunw zprog2 (zovW []) 100000 zcut0 3 420 kX8_passes (zkinL zyx304q) 0 (zargs 0 zyx304a, [], (zyh352.1, zyh352.2.1, 0), 0, 0)
/-! X8_passes -/
noncomputable def zyx305a : List zAV := [zyv320, zyv323]
noncomputable def zyx305q : List (Option zAV × zH) := [(some (.inl ((.ofNat 0, .ofNat 0), none)), zyh356), (some (.inl ((.ofNat 1, .ofNat 1), none)), zyh357)]
noncomputable def zyx305d : zKw := (263, 2, 3, 420, zyx305a, zyh355, zyx305q)
noncomputable def zbzyx305e : Bool := zrunw zprog2 (zovW []) 100000 zcut0 3 420 kX8_passes (zkinL zyx305q) 0 (zargs 0 zyx305a, [], (zyh355.1, zyh355.2.1, 0), 0, 0)
/-! X8_passes -/
noncomputable def zyx306a : List zAV := [zyv320, zyv323]
noncomputable def zyx306q : List (Option zAV × zH) := [(some (.inl ((.ofNat 0, .ofNat 0), none)), zyh359), (some (.inl ((.ofNat 1, .ofNat 1), none)), zyh360)]
noncomputable def zyx306d : zKw := (263, 2, 3, 420, zyx306a, zyh358, zyx306q)
noncomputable def zbzyx306e : Bool := zrunw zprog2 (zovW []) 100000 zcut0 3 420 kX8_passes (zkinL zyx306q) 0 (zargs 0 zyx306a, [], (zyh358.1, zyh358.2.1, 0), 0, 0)
/-! X8_passes -/
noncomputable def zyx307a : List zAV := [zyv320, zyv323]
noncomputable def zyx307q : List (Option zAV × zH) := [(some (.inl ((.ofNat 0, .ofNat 0), none)), zyh362), (some (.inl ((.ofNat 1, .ofNat 1), none)), zyh363)]
noncomputable def zyx307d : zKw := (263, 2, 3, 420, zyx307a, zyh361, zyx307q)
noncomputable def zbzyx307e : Bool := zrunw zprog2 (zovW []) 100000 zcut0 3 420 kX8_passes (zkinL zyx307q) 0 (zargs 0 zyx307a, [], (zyh361.1, zyh361.2.1, 0), 0, 0)
/-! X8_passes -/
noncomputable def zyx308a : List zAV := [zyv320, zyv323]
noncomputable def zyx308q : List (Option zAV × zH) := [(some (.inl ((.ofNat 0, .ofNat 0), none)), zyh365), (some (.inl ((.ofNat 1, .ofNat 1), none)), zyh366)]
noncomputable def zyx308d : zKw := (263, 2, 3, 420, zyx308a, zyh364, zyx308q)
noncomputable def zbzyx308e : Bool := zrunw zprog2 (zovW []) 100000 zcut0 3 420 kX8_passes (zkinL zyx308q) 0 (zargs 0 zyx308a, [], (zyh364.1, zyh364.2.1, 0), 0, 0)
/-! X8_passes -/
noncomputable def zyx309a : List zAV := [zyv320, zyv323]
noncomputable def zyx309q : List (Option zAV × zH) := [(some (.inl ((.ofNat 0, .ofNat 0), none)), zyh368), (some (.inl ((.ofNat 1, .ofNat 1), none)), zyh369)]
noncomputable def zyx309d : zKw := (263, 2, 3, 420, zyx309a, zyh367, zyx309q)
noncomputable def zbzyx309e : Bool := zrunw zprog2 (zovW []) 100000 zcut0 3 420 kX8_passes (zkinL zyx309q) 0 (zargs 0 zyx309a, [], (zyh367.1, zyh367.2.1, 0), 0, 0)
/-! X8_passes -/
noncomputable def zyx310a : List zAV := [zyv320, zyv323]
noncomputable def zyx310q : List (Option zAV × zH) := [(some (.inl ((.ofNat 0, .ofNat 0), none)), zyh371), (some (.inl ((.ofNat 1, .ofNat 1), none)), zyh372)]
noncomputable def zyx310d : zKw := (263, 2, 3, 420, zyx310a, zyh370, zyx310q)
noncomputable def zbzyx310e : Bool := zrunw zprog2 (zovW []) 100000 zcut0 3 420 kX8_passes (zkinL zyx310q) 0 (zargs 0 zyx310a, [], (zyh370.1, zyh370.2.1, 0), 0, 0)
/-! X8_passes -/
noncomputable def zyx311a : List zAV := [zyv320, zyv323]
noncomputable def zyx311q : List (Option zAV × zH) := [(some (.inl ((.ofNat 0, .ofNat 0), none)), zyh374), (some (.inl ((.ofNat 1, .ofNat 1), none)), zyh375)]
noncomputable def zyx311d : zKw := (263, 2, 3, 420, zyx311a, zyh373, zyx311q)
noncomputable def zbzyx311e : Bool := zrunw zprog2 (zovW []) 100000 zcut0 3 420 kX8_passes (zkinL zyx311q) 0 (zargs 0 zyx311a, [], (zyh373.1, zyh373.2.1, 0), 0, 0)
/-! X8_passes -/
noncomputable def zyx312a : List zAV := [zyv320, zyv323]
noncomputable def zyx312q : List (Option zAV × zH) := [(some (.inl ((.ofNat 0, .ofNat 0), none)), zyh377), (some (.inl ((.ofNat 1, .ofNat 1), none)), zyh378)]
noncomputable def zyx312d : zKw := (263, 2, 3, 420, zyx312a, zyh376, zyx312q)
noncomputable def zbzyx312e : Bool := zrunw zprog2 (zovW []) 100000 zcut0 3 420 kX8_passes (zkinL zyx312q) 0 (zargs 0 zyx312a, [], (zyh376.1, zyh376.2.1, 0), 0, 0)
/-! X8_passes -/
noncomputable def zyx313a : List zAV := [zyv320, zyv323]
noncomputable def zyx313q : List (Option zAV × zH) := [(some (.inl ((.ofNat 0, .ofNat 0), none)), zyh380), (some (.inl ((.ofNat 1, .ofNat 1), none)), zyh381)]
noncomputable def zyx313d : zKw := (263, 2, 3, 420, zyx313a, zyh379, zyx313q)
noncomputable def zbzyx313e : Bool := zrunw zprog2 (zovW []) 100000 zcut0 3 420 kX8_passes (zkinL zyx313q) 0 (zargs 0 zyx313a, [], (zyh379.1, zyh379.2.1, 0), 0, 0)
/-! X8_passes -/
noncomputable def zyx314a : List zAV := [zyv320, zyv323]
noncomputable def zyx314q : List (Option zAV × zH) := [(some (.inl ((.ofNat 0, .ofNat 0), none)), zyh383), (some (.inl ((.ofNat 1, .ofNat 1), none)), zyh384)]
noncomputable def zyx314d : zKw := (263, 2, 3, 420, zyx314a, zyh382, zyx314q)
noncomputable def zbzyx314e : Bool := zrunw zprog2 (zovW []) 100000 zcut0 3 420 kX8_passes (zkinL zyx314q) 0 (zargs 0 zyx314a, [], (zyh382.1, zyh382.2.1, 0), 0, 0)
/-! X8_passes -/
noncomputable def zyx315a : List zAV := [zyv320, zyv323]
noncomputable def zyx315q : List (Option zAV × zH) := [(some (.inl ((.ofNat 0, .ofNat 0), none)), zyh386), (some (.inl ((.ofNat 1, .ofNat 1), none)), zyh387)]
noncomputable def zyx315d : zKw := (263, 2, 3, 420, zyx315a, zyh385, zyx315q)
noncomputable def zbzyx315e : Bool := zrunw zprog2 (zovW []) 100000 zcut0 3 420 kX8_passes (zkinL zyx315q) 0 (zargs 0 zyx315a, [], (zyh385.1, zyh385.2.1, 0), 0, 0)
/-! X8_passes -/
noncomputable def zyx316a : List zAV := [zyv320, zyv323]
noncomputable def zyx316q : List (Option zAV × zH) := [(some (.inl ((.ofNat 0, .ofNat 0), none)), zyh389), (some (.inl ((.ofNat 1, .ofNat 1), none)), zyh390)]
noncomputable def zyx316d : zKw := (263, 2, 3, 420, zyx316a, zyh388, zyx316q)
noncomputable def zbzyx316e : Bool := zrunw zprog2 (zovW []) 100000 zcut0 3 420 kX8_passes (zkinL zyx316q) 0 (zargs 0 zyx316a, [], (zyh388.1, zyh388.2.1, 0), 0, 0)
/-! X8_passes -/
noncomputable def zyx317a : List zAV := [zyv320, zyv323]
noncomputable def zyx317q : List (Option zAV × zH) := [(some (.inl ((.ofNat 0, .ofNat 0), none)), zyh392), (some (.inl ((.ofNat 1, .ofNat 1), none)), zyh393)]
noncomputable def zyx317d : zKw := (263, 2, 3, 420, zyx317a, zyh391, zyx317q)
noncomputable def zbzyx317e : Bool := zrunw zprog2 (zovW []) 100000 zcut0 3 420 kX8_passes (zkinL zyx317q) 0 (zargs 0 zyx317a, [], (zyh391.1, zyh391.2.1, 0), 0, 0)
/-! X8_passes -/
noncomputable def zyx318a : List zAV := [zyv320, zyv323]
noncomputable def zyx318q : List (Option zAV × zH) := [(some (.inl ((.ofNat 0, .ofNat 0), none)), zyh395), (some (.inl ((.ofNat 1, .ofNat 1), none)), zyh396)]
noncomputable def zyx318d : zKw := (263, 2, 3, 420, zyx318a, zyh394, zyx318q)
noncomputable def zbzyx318e : Bool := zrunw zprog2 (zovW []) 100000 zcut0 3 420 kX8_passes (zkinL zyx318q) 0 (zargs 0 zyx318a, [], (zyh394.1, zyh394.2.1, 0), 0, 0)
/-! X8_passes -/
noncomputable def zyx319a : List zAV := [zyv320, zyv323]
noncomputable def zyx319q : List (Option zAV × zH) := [(some (.inl ((.ofNat 0, .ofNat 0), none)), zyh398), (some (.inl ((.ofNat 1, .ofNat 1), none)), zyh399)]
noncomputable def zyx319d : zKw := (263, 2, 3, 420, zyx319a, zyh397, zyx319q)
noncomputable def zbzyx319e : Bool := zrunw zprog2 (zovW []) 100000 zcut0 3 420 kX8_passes (zkinL zyx319q) 0 (zargs 0 zyx319a, [], (zyh397.1, zyh397.2.1, 0), 0, 0)
/-! X8_passes -/
noncomputable def zyx320a : List zAV := [zyv320, zyv323]
noncomputable def zyx320q : List (Option zAV × zH) := [(some (.inl ((.ofNat 0, .ofNat 0), none)), zyh401), (some (.inl ((.ofNat 1, .ofNat 1), none)), zyh402)]
noncomputable def zyx320d : zKw := (263, 2, 3, 420, zyx320a, zyh400, zyx320q)
noncomputable def zbzyx320e : Bool := zrunw zprog2 (zovW []) 100000 zcut0 3 420 kX8_passes (zkinL zyx320q) 0 (zargs 0 zyx320a, [], (zyh400.1, zyh400.2.1, 0), 0, 0)
/-! X8_passes -/
noncomputable def zyx321a : List zAV := [zyv320, zyv323]
noncomputable def zyx321q : List (Option zAV × zH) := [(some (.inl ((.ofNat 0, .ofNat 0), none)), zyh404), (some (.inl ((.ofNat 1, .ofNat 1), none)), zyh405)]
noncomputable def zyx321d : zKw := (263, 2, 3, 420, zyx321a, zyh403, zyx321q)
noncomputable def zbzyx321e : Bool := zrunw zprog2 (zovW []) 100000 zcut0 3 420 kX8_passes (zkinL zyx321q) 0 (zargs 0 zyx321a, [], (zyh403.1, zyh403.2.1, 0), 0, 0)
/-! X8_passes -/
noncomputable def zyx322a : List zAV := [zyv320, zyv323]
noncomputable def zyx322q : List (Option zAV × zH) := [(some (.inl ((.ofNat 0, .ofNat 0), none)), zyh407), (some (.inl ((.ofNat 1, .ofNat 1), none)), zyh408)]
noncomputable def zyx322d : zKw := (263, 2, 3, 420, zyx322a, zyh406, zyx322q)
noncomputable def zbzyx322e : Bool := zrunw zprog2 (zovW []) 100000 zcut0 3 420 kX8_passes (zkinL zyx322q) 0 (zargs 0 zyx322a, [], (zyh406.1, zyh406.2.1, 0), 0, 0)
/-! X8_passes -/
noncomputable def zyx323a : List zAV := [zyv320, zyv323]
noncomputable def zyx323q : List (Option zAV × zH) := [(some (.inl ((.ofNat 0, .ofNat 0), none)), zyh410), (some (.inl ((.ofNat 1, .ofNat 1), none)), zyh411)]
noncomputable def zyx323d : zKw := (263, 2, 3, 420, zyx323a, zyh409, zyx323q)
noncomputable def zbzyx323e : Bool := zrunw zprog2 (zovW []) 100000 zcut0 3 420 kX8_passes (zkinL zyx323q) 0 (zargs 0 zyx323a, [], (zyh409.1, zyh409.2.1, 0), 0, 0)
/-! X8_passes -/
noncomputable def zyx324a : List zAV := [zyv320, zyv323]
noncomputable def zyx324q : List (Option zAV × zH) := [(some (.inl ((.ofNat 0, .ofNat 0), none)), zyh413), (some (.inl ((.ofNat 1, .ofNat 1), none)), zyh414)]
noncomputable def zyx324d : zKw := (263, 2, 3, 420, zyx324a, zyh412, zyx324q)
noncomputable def zbzyx324e : Bool := zrunw zprog2 (zovW []) 100000 zcut0 3 420 kX8_passes (zkinL zyx324q) 0 (zargs 0 zyx324a, [], (zyh412.1, zyh412.2.1, 0), 0, 0)
/-! X8_passes -/
noncomputable def zyx325a : List zAV := [zyv320, zyv323]
noncomputable def zyx325q : List (Option zAV × zH) := [(some (.inl ((.ofNat 0, .ofNat 0), none)), zyh416), (some (.inl ((.ofNat 1, .ofNat 1), none)), zyh417)]
noncomputable def zyx325d : zKw := (263, 2, 3, 420, zyx325a, zyh415, zyx325q)
noncomputable def zbzyx325e : Bool := zrunw zprog2 (zovW []) 100000 zcut0 3 420 kX8_passes (zkinL zyx325q) 0 (zargs 0 zyx325a, [], (zyh415.1, zyh415.2.1, 0), 0, 0)
/-! X8_passes -/
noncomputable def zyx326a : List zAV := [zyv320, zyv323]
noncomputable def zyx326q : List (Option zAV × zH) := [(some (.inl ((.ofNat 0, .ofNat 0), none)), zyh419), (some (.inl ((.ofNat 1, .ofNat 1), none)), zyh420)]
noncomputable def zyx326d : zKw := (263, 2, 3, 420, zyx326a, zyh418, zyx326q)
noncomputable def zbzyx326e : Bool := zrunw zprog2 (zovW []) 100000 zcut0 3 420 kX8_passes (zkinL zyx326q) 0 (zargs 0 zyx326a, [], (zyh418.1, zyh418.2.1, 0), 0, 0)
/-! X8_passes -/
noncomputable def zyx327a : List zAV := [zyv320, zyv323]
noncomputable def zyx327q : List (Option zAV × zH) := [(some (.inl ((.ofNat 0, .ofNat 0), none)), zyh422), (some (.inl ((.ofNat 1, .ofNat 1), none)), zyh423)]
noncomputable def zyx327d : zKw := (263, 2, 3, 420, zyx327a, zyh421, zyx327q)
noncomputable def zbzyx327e : Bool := zrunw zprog2 (zovW []) 100000 zcut0 3 420 kX8_passes (zkinL zyx327q) 0 (zargs 0 zyx327a, [], (zyh421.1, zyh421.2.1, 0), 0, 0)
/-! X8_passes -/
noncomputable def zyx328a : List zAV := [zyv320, zyv323]
noncomputable def zyx328q : List (Option zAV × zH) := [(some (.inl ((.ofNat 0, .ofNat 0), none)), zyh425), (some (.inl ((.ofNat 1, .ofNat 1), none)), zyh426)]
noncomputable def zyx328d : zKw := (263, 2, 3, 420, zyx328a, zyh424, zyx328q)
noncomputable def zbzyx328e : Bool := zrunw zprog2 (zovW []) 100000 zcut0 3 420 kX8_passes (zkinL zyx328q) 0 (zargs 0 zyx328a, [], (zyh424.1, zyh424.2.1, 0), 0, 0)
/-! X8_passes -/
noncomputable def zyx329a : List zAV := [zyv320, zyv323]
noncomputable def zyx329q : List (Option zAV × zH) := [(some (.inl ((.ofNat 0, .ofNat 0), none)), zyh428), (some (.inl ((.ofNat 1, .ofNat 1), none)), zyh429)]
noncomputable def zyx329d : zKw := (263, 2, 3, 420, zyx329a, zyh427, zyx329q)
noncomputable def zbzyx329e : Bool := zrunw zprog2 (zovW []) 100000 zcut0 3 420 kX8_passes (zkinL zyx329q) 0 (zargs 0 zyx329a, [], (zyh427.1, zyh427.2.1, 0), 0, 0)
/-! X8_passes -/
noncomputable def zyx330a : List zAV := [zyv320, zyv323]
noncomputable def zyx330q : List (Option zAV × zH) := [(some (.inl ((.ofNat 0, .ofNat 0), none)), zyh431), (some (.inl ((.ofNat 1, .ofNat 1), none)), zyh432)]
noncomputable def zyx330d : zKw := (263, 2, 3, 420, zyx330a, zyh430, zyx330q)
noncomputable def zbzyx330e : Bool := zrunw zprog2 (zovW []) 100000 zcut0 3 420 kX8_passes (zkinL zyx330q) 0 (zargs 0 zyx330a, [], (zyh430.1, zyh430.2.1, 0), 0, 0)
/-! X8_passes -/
noncomputable def zyx331a : List zAV := [zyv320, zyv323]
noncomputable def zyx331q : List (Option zAV × zH) := [(some (.inl ((.ofNat 0, .ofNat 0), none)), zyh434), (some (.inl ((.ofNat 1, .ofNat 1), none)), zyh435)]
noncomputable def zyx331d : zKw := (263, 2, 3, 420, zyx331a, zyh433, zyx331q)
noncomputable def zbzyx331e : Bool := zrunw zprog2 (zovW []) 100000 zcut0 3 420 kX8_passes (zkinL zyx331q) 0 (zargs 0 zyx331a, [], (zyh433.1, zyh433.2.1, 0), 0, 0)
/-! X8_passes -/
noncomputable def zyx332a : List zAV := [zyv320, zyv323]
noncomputable def zyx332q : List (Option zAV × zH) := [(some (.inl ((.ofNat 0, .ofNat 0), none)), zyh437), (some (.inl ((.ofNat 1, .ofNat 1), none)), zyh438)]
noncomputable def zyx332d : zKw := (263, 2, 3, 420, zyx332a, zyh436, zyx332q)
noncomputable def zbzyx332e : Bool := zrunw zprog2 (zovW []) 100000 zcut0 3 420 kX8_passes (zkinL zyx332q) 0 (zargs 0 zyx332a, [], (zyh436.1, zyh436.2.1, 0), 0, 0)
/-! X8_passes -/
noncomputable def zyx333a : List zAV := [zyv320, zyv323]
noncomputable def zyx333q : List (Option zAV × zH) := [(some (.inl ((.ofNat 0, .ofNat 0), none)), zyh440), (some (.inl ((.ofNat 1, .ofNat 1), none)), zyh441)]
noncomputable def zyx333d : zKw := (263, 2, 3, 420, zyx333a, zyh439, zyx333q)
noncomputable def zbzyx333e : Bool := zrunw zprog2 (zovW []) 100000 zcut0 3 420 kX8_passes (zkinL zyx333q) 0 (zargs 0 zyx333a, [], (zyh439.1, zyh439.2.1, 0), 0, 0)
/-! X8_passes -/
noncomputable def zyx334a : List zAV := [zyv320, zyv323]
noncomputable def zyx334q : List (Option zAV × zH) := [(some (.inl ((.ofNat 0, .ofNat 0), none)), zyh443), (some (.inl ((.ofNat 1, .ofNat 1), none)), zyh444)]
noncomputable def zyx334d : zKw := (263, 2, 3, 420, zyx334a, zyh442, zyx334q)
noncomputable def zbzyx334e : Bool := zrunw zprog2 (zovW []) 100000 zcut0 3 420 kX8_passes (zkinL zyx334q) 0 (zargs 0 zyx334a, [], (zyh442.1, zyh442.2.1, 0), 0, 0)
/-! X8_passes -/
noncomputable def zyx335a : List zAV := [zyv320, zyv323]
noncomputable def zyx335q : List (Option zAV × zH) := [(some (.inl ((.ofNat 0, .ofNat 0), none)), zyh446), (some (.inl ((.ofNat 1, .ofNat 1), none)), zyh447)]
noncomputable def zyx335d : zKw := (263, 2, 3, 420, zyx335a, zyh445, zyx335q)
noncomputable def zbzyx335e : Bool := zrunw zprog2 (zovW []) 100000 zcut0 3 420 kX8_passes (zkinL zyx335q) 0 (zargs 0 zyx335a, [], (zyh445.1, zyh445.2.1, 0), 0, 0)
/-! X8_passes -/
noncomputable def zyx336a : List zAV := [zyv320, zyv323]
noncomputable def zyx336q : List (Option zAV × zH) := [(some (.inl ((.ofNat 0, .ofNat 0), none)), zyh449), (some (.inl ((.ofNat 1, .ofNat 1), none)), zyh450)]
noncomputable def zyx336d : zKw := (263, 2, 3, 420, zyx336a, zyh448, zyx336q)
noncomputable def zbzyx336e : Bool := zrunw zprog2 (zovW []) 100000 zcut0 3 420 kX8_passes (zkinL zyx336q) 0 (zargs 0 zyx336a, [], (zyh448.1, zyh448.2.1, 0), 0, 0)
/-! X8_passes -/
noncomputable def zyx337a : List zAV := [zyv320, zyv323]
noncomputable def zyx337q : List (Option zAV × zH) := [(some (.inl ((.ofNat 0, .ofNat 0), none)), zyh452), (some (.inl ((.ofNat 1, .ofNat 1), none)), zyh453)]
noncomputable def zyx337d : zKw := (263, 2, 3, 420, zyx337a, zyh451, zyx337q)
noncomputable def zbzyx337e : Bool := zrunw zprog2 (zovW []) 100000 zcut0 3 420 kX8_passes (zkinL zyx337q) 0 (zargs 0 zyx337a, [], (zyh451.1, zyh451.2.1, 0), 0, 0)
/-! X8_passes -/
noncomputable def zyx338a : List zAV := [zyv320, zyv323]
noncomputable def zyx338q : List (Option zAV × zH) := [(some (.inl ((.ofNat 0, .ofNat 0), none)), zyh455), (some (.inl ((.ofNat 1, .ofNat 1), none)), zyh456)]
noncomputable def zyx338d : zKw := (263, 2, 3, 420, zyx338a, zyh454, zyx338q)
noncomputable def zbzyx338e : Bool := zrunw zprog2 (zovW []) 100000 zcut0 3 420 kX8_passes (zkinL zyx338q) 0 (zargs 0 zyx338a, [], (zyh454.1, zyh454.2.1, 0), 0, 0)
/-! X8_passes -/
noncomputable def zyx339a : List zAV := [zyv320, zyv323]
noncomputable def zyx339q : List (Option zAV × zH) := [(some (.inl ((.ofNat 0, .ofNat 0), none)), zyh458), (some (.inl ((.ofNat 1, .ofNat 1), none)), zyh459)]
noncomputable def zyx339d : zKw := (263, 2, 3, 420, zyx339a, zyh457, zyx339q)
noncomputable def zbzyx339e : Bool := zrunw zprog2 (zovW []) 100000 zcut0 3 420 kX8_passes (zkinL zyx339q) 0 (zargs 0 zyx339a, [], (zyh457.1, zyh457.2.1, 0), 0, 0)
/-! X8_passes -/
noncomputable def zyx340a : List zAV := [zyv320, zyv323]
noncomputable def zyx340q : List (Option zAV × zH) := [(some (.inl ((.ofNat 0, .ofNat 0), none)), zyh461)]
noncomputable def zyx340d : zKw := (263, 2, 3, 420, zyx340a, zyh460, zyx340q)
noncomputable def zbzyx340e : Bool := zrunw zprog2 (zovW []) 100000 zcut0 3 420 kX8_passes (zkinL zyx340q) 0 (zargs 0 zyx340a, [], (zyh460.1, zyh460.2.1, 0), 0, 0)
/-! X8_thing -/
noncomputable def zyx341a : List zAV := [.inr (.inr (.inl 94)), .inl ((.ofNat 0, .ofNat 4), none)]
def zyx341r : Option zAV := some (.inl ((.negSucc 2147483647, .ofNat 2147483647), none))
noncomputable def zyx341p : List zPw := []
noncomputable def zyx341d : zKw := (292, 4, 4, 540, zyx341a, zyh460, [(zyx341r, zyh461)])
noncomputable def zbzyx341e : Bool := zrunw zprog2 (zovW [zyx340d]) 100000 (zcutW [] none ((zyx341r, zyh461), 4, 540) zyx341p) 4 540 k2X8_thing (zkin zyx341r zyh461) 0 (zargs 0 zyx341a, [], (zyh460.1, zyh460.2.1, 0), 0, 0)
/-! X8_product ((('r', 102), 40, 40),) -/
noncomputable def zyx342a : List zAV := [.inr (.inr (.inl 94)), .inl ((.ofNat 0, .ofNat 4), none)]
def zyx342r : Option zAV := some (.inl ((.negSucc 2147483647, .ofNat 2147483647), none))
noncomputable def zyx342q : zPw := ((6, ([(0, .inr (.inr (.inl 94))), (1, .inl ((.ofNat 0, .ofNat 4), some (1, .ofNat 0))), (2, .inl ((.negSucc 2147483647, .ofNat 2147483647), some (2, .ofNat 0)))], [], zyh461, 0, 0), [], 0), (zyx342r, zyh461), 5, 660)
noncomputable def zbzyx342c : Bool := zchkX [(94, 15)] zprog2 (zovW [zyx341d]) 100000 k2X8_product [] [zyx342q] [zyx342q]
noncomputable def zyx342d : zKw := (265, 5, 5, 660, zyx342a, zyh460, [(zyx342r, zyh461)])
noncomputable def zbzyx342e : Bool := zrunw zprog2 (zovW [zyx341d]) 100000 (zcutW [(94, 15)] none ((zyx342r, zyh461), 5, 660) [zyx342q]) 5 660 k2X8_product (zkin zyx342r zyh461) 0 (zargs 0 zyx342a, [], (zyh460.1, zyh460.2.1, 0), 0, 0)
/-! X8_sum ((('r', 102), 40, 40),) -/
noncomputable def zyx343a : List zAV := [.inr (.inr (.inl 94)), .inl ((.ofNat 1, .ofNat 4), none)]
def zyx343r : Option zAV := some (.inl ((.negSucc 2147483647, .ofNat 2147483647), none))
noncomputable def zyx343q : zPw := ((6, ([(0, .inr (.inr (.inl 94))), (1, .inl ((.ofNat 0, .ofNat 4), some (1, .ofNat 0))), (2, .inl ((.negSucc 2147483647, .ofNat 2147483647), some (2, .ofNat 0)))], [], zyh461, 0, 0), [], 0), (zyx343r, zyh461), 6, 780)
noncomputable def zbzyx343c : Bool := zchkX [(94, 15)] zprog2 (zovW [zyx342d]) 100000 kX8_sum [] [zyx343q] [zyx343q]
noncomputable def zyx343d : zKw := (284, 5, 6, 780, zyx343a, zyh460, [(zyx343r, zyh461)])
noncomputable def zbzyx343e : Bool := zrunw zprog2 (zovW [zyx342d]) 100000 (zcutW [(94, 15)] none ((zyx343r, zyh461), 6, 780) [zyx343q]) 6 780 kX8_sum (zkin zyx343r zyh461) 0 (zargs 0 zyx343a, [], (zyh460.1, zyh460.2.1, 0), 0, 0)
/-! X8_heldBy -/
noncomputable def zyx344a : List zAV := [.inr (.inr (.inl 94)), .inl ((.ofNat 1, .ofNat 4), none)]
def zyx344r : Option zAV := some (.inl ((.negSucc 2147483647, .ofNat 2147483647), none))
noncomputable def zyx344p : List zPw := []
noncomputable def zyx344d : zKw := (229, 3, 7, 900, zyx344a, zyh460, [(zyx344r, zyh461)])
noncomputable def zbzyx344e : Bool := zrunw zprog2 (zovW [zyx343d, zyx340d]) 100000 (zcutW [] none ((zyx344r, zyh461), 7, 900) zyx344p) 7 900 kX8_heldBy (zkin zyx344r zyh461) 0 (zargs 0 zyx344a, [], (zyh460.1, zyh460.2.1, 0), 0, 0)
/-! X8_oneOf -/
noncomputable def zyx345a : List zAV := [zyv320, zyv362, zyv363]
noncomputable def zyx345q : List (Option zAV × zH) := [(some (.inl ((.ofNat 0, .ofNat 0), none)), zyh462), (some (.inl ((.negSucc 175, .ofNat 79), none)), zyh459)]
noncomputable def zyx345d : zKw := (260, 3, 4, 480, zyx345a, zyh457, zyx345q)
noncomputable def zbzyx345e : Bool := zrunw zprog2 (zovW []) 100000 zcut0 4 480 kX8_oneOf (zkinL zyx345q) 0 (zargs 0 zyx345a, [], (zyh457.1, zyh457.2.1, 0), 0, 0)
/-! X8_number -/
noncomputable def zyx346a : List zAV := [.inr (.inr (.inl 94)), .inl ((.ofNat 3, .ofNat 3), none)]
def zyx346r : Option zAV := some (.inl ((.negSucc 2147483647, .ofNat 2147483647), none))
noncomputable def zyx346p : List zPw := [((11, ([(0, .inr (.inr (.inl 94))), (1, .inl ((.ofNat 3, .ofNat 3), some (1, .ofNat 0))), (2, .inl ((.negSucc 2147483647, .ofNat 2147483647), some (2, .ofNat 0))), (3, .inl ((.ofNat 1, .ofNat 3), some (3, .ofNat 0)))], [], zyh458, 0, 0), [(3, .negSucc 1)], .ofNat 7), (zyx346r, zyh458), 5, 600)]
noncomputable def zyx346d : zKw := (259, 4, 5, 600, zyx346a, zyh457, [(zyx346r, zyh458)])
noncomputable def zbzyx346c : Bool := zchkX [] zprog2 (zovW [zyx345d]) 100000 kX8_number [] zyx346p zyx346p
noncomputable def zbzyx346e : Bool := zrunw zprog2 (zovW [zyx345d]) 100000 (zcutW [] none ((zyx346r, zyh458), 5, 600) zyx346p) 5 600 kX8_number (zkin zyx346r zyh458) 0 (zargs 0 zyx346a, [], (zyh457.1, zyh457.2.1, 0), 0, 0)
/-! X8_thing -/
noncomputable def zyx347a : List zAV := [.inr (.inr (.inl 94)), .inl ((.ofNat 0, .ofNat 4), none)]
def zyx347r : Option zAV := some (.inl ((.negSucc 2147483647, .ofNat 2147483647), none))
noncomputable def zyx347p : List zPw := []
noncomputable def zyx347d : zKw := (292, 4, 8, 1020, zyx347a, zyh457, [(zyx347r, zyh458)])
noncomputable def zbzyx347e : Bool := zrunw zprog2 (zovW [zyx344d, zyx341d, zyx340d, zyx346d, zyx339d]) 100000 (zcutW [] none ((zyx347r, zyh458), 8, 1020) zyx347p) 8 1020 k2X8_thing (zkin zyx347r zyh458) 0 (zargs 0 zyx347a, [], (zyh457.1, zyh457.2.1, 0), 0, 0)
/-! X8_product ((('r', 102), 40, 39),) -/
noncomputable def zyx348a : List zAV := [.inr (.inr (.inl 94)), .inl ((.ofNat 0, .ofNat 4), none)]
def zyx348r : Option zAV := some (.inl ((.negSucc 2147483647, .ofNat 2147483647), none))
noncomputable def zyx348q : zPw := ((6, ([(0, .inr (.inr (.inl 94))), (1, .inl ((.ofNat 0, .ofNat 4), some (1, .ofNat 0))), (2, .inl ((.negSucc 2147483647, .ofNat 2147483647), some (2, .ofNat 0)))], [], zyh458, 0, 0), [], 0), (zyx348r, zyh458), 9, 1140)
noncomputable def zbzyx348c : Bool := zchkX [(94, 15)] zprog2 (zovW [zyx341d, zyx347d]) 100000 k2X8_product [zyx342q] [zyx348q] [zyx348q]
noncomputable def zyx348d : zKw := (265, 5, 9, 1140, zyx348a, zyh457, [(zyx348r, zyh458)])
noncomputable def zbzyx348e : Bool := zrunw zprog2 (zovW [zyx341d, zyx347d]) 100000 (zcutW [(94, 15)] none ((zyx348r, zyh458), 9, 1140) [zyx348q, zyx342q]) 9 1140 k2X8_product (zkin zyx348r zyh458) 0 (zargs 0 zyx348a, [], (zyh457.1, zyh457.2.1, 0), 0, 0)
/-! X8_sum ((('r', 102), 40, 39),) -/
noncomputable def zyx349a : List zAV := [.inr (.inr (.inl 94)), .inl ((.ofNat 1, .ofNat 4), none)]
def zyx349r : Option zAV := some (.inl ((.negSucc 2147483647, .ofNat 2147483647), none))
noncomputable def zyx349q : zPw := ((6, ([(0, .inr (.inr (.inl 94))), (1, .inl ((.ofNat 0, .ofNat 4), some (1, .ofNat 0))), (2, .inl ((.negSucc 2147483647, .ofNat 2147483647), some (2, .ofNat 0)))], [], zyh458, 0, 0), [], 0), (zyx349r, zyh458), 10, 1260)
noncomputable def zbzyx349c : Bool := zchkX [(94, 15)] zprog2 (zovW [zyx342d, zyx348d]) 100000 kX8_sum [zyx343q] [zyx349q] [zyx349q]
noncomputable def zyx349d : zKw := (284, 5, 10, 1260, zyx349a, zyh457, [(zyx349r, zyh458)])
noncomputable def zbzyx349e : Bool := zrunw zprog2 (zovW [zyx342d, zyx348d]) 100000 (zcutW [(94, 15)] none ((zyx349r, zyh458), 10, 1260) [zyx349q, zyx343q]) 10 1260 kX8_sum (zkin zyx349r zyh458) 0 (zargs 0 zyx349a, [], (zyh457.1, zyh457.2.1, 0), 0, 0)
/-! X8_heldBy -/
noncomputable def zyx350a : List zAV := [.inr (.inr (.inl 94)), .inl ((.ofNat 1, .ofNat 4), none)]
def zyx350r : Option zAV := some (.inl ((.negSucc 2147483647, .ofNat 2147483647), none))
noncomputable def zyx350p : List zPw := []
noncomputable def zyx350d : zKw := (229, 3, 11, 1380, zyx350a, zyh457, [(zyx350r, zyh458)])
noncomputable def zbzyx350e : Bool := zrunw zprog2 (zovW [zyx343d, zyx349d, zyx339d]) 100000 (zcutW [] none ((zyx350r, zyh458), 11, 1380) zyx350p) 11 1380 kX8_heldBy (zkin zyx350r zyh458) 0 (zargs 0 zyx350a, [], (zyh457.1, zyh457.2.1, 0), 0, 0)
/-! X8_oneOf -/
noncomputable def zyx351a : List zAV := [zyv320, zyv362, zyv363]
noncomputable def zyx351q : List (Option zAV × zH) := [(some (.inl ((.ofNat 0, .ofNat 0), none)), zyh463), (some (.inl ((.negSucc 175, .ofNat 79), none)), zyh456)]
noncomputable def zyx351d : zKw := (260, 3, 4, 480, zyx351a, zyh454, zyx351q)
noncomputable def zbzyx351e : Bool := zrunw zprog2 (zovW []) 100000 zcut0 4 480 kX8_oneOf (zkinL zyx351q) 0 (zargs 0 zyx351a, [], (zyh454.1, zyh454.2.1, 0), 0, 0)
/-! X8_number -/
noncomputable def zyx352a : List zAV := [.inr (.inr (.inl 94)), .inl ((.ofNat 3, .ofNat 3), none)]
def zyx352r : Option zAV := some (.inl ((.negSucc 2147483647, .ofNat 2147483647), none))
noncomputable def zyx352p : List zPw := [((11, ([(0, .inr (.inr (.inl 94))), (1, .inl ((.ofNat 3, .ofNat 3), some (1, .ofNat 0))), (2, .inl ((.negSucc 2147483647, .ofNat 2147483647), some (2, .ofNat 0))), (3, .inl ((.ofNat 1, .ofNat 3), some (3, .ofNat 0)))], [], zyh455, 0, 0), [(3, .negSucc 1)], .ofNat 7), (zyx352r, zyh455), 5, 600)]
noncomputable def zyx352d : zKw := (259, 4, 5, 600, zyx352a, zyh454, [(zyx352r, zyh455)])
noncomputable def zbzyx352c : Bool := zchkX [] zprog2 (zovW [zyx351d]) 100000 kX8_number [] zyx352p zyx352p
noncomputable def zbzyx352e : Bool := zrunw zprog2 (zovW [zyx351d]) 100000 (zcutW [] none ((zyx352r, zyh455), 5, 600) zyx352p) 5 600 kX8_number (zkin zyx352r zyh455) 0 (zargs 0 zyx352a, [], (zyh454.1, zyh454.2.1, 0), 0, 0)
/-! X8_thing -/
noncomputable def zyx353a : List zAV := [.inr (.inr (.inl 94)), .inl ((.ofNat 0, .ofNat 4), none)]
def zyx353r : Option zAV := some (.inl ((.negSucc 2147483647, .ofNat 2147483647), none))
noncomputable def zyx353p : List zPw := []
noncomputable def zyx353d : zKw := (292, 4, 12, 1500, zyx353a, zyh454, [(zyx353r, zyh455)])
noncomputable def zbzyx353e : Bool := zrunw zprog2 (zovW [zyx350d, zyx347d, zyx339d, zyx352d, zyx338d]) 100000 (zcutW [] none ((zyx353r, zyh455), 12, 1500) zyx353p) 12 1500 k2X8_thing (zkin zyx353r zyh455) 0 (zargs 0 zyx353a, [], (zyh454.1, zyh454.2.1, 0), 0, 0)
/-! X8_product ((('r', 102), 40, 38),) -/
noncomputable def zyx354a : List zAV := [.inr (.inr (.inl 94)), .inl ((.ofNat 0, .ofNat 4), none)]
def zyx354r : Option zAV := some (.inl ((.negSucc 2147483647, .ofNat 2147483647), none))
noncomputable def zyx354q : zPw := ((6, ([(0, .inr (.inr (.inl 94))), (1, .inl ((.ofNat 0, .ofNat 4), some (1, .ofNat 0))), (2, .inl ((.negSucc 2147483647, .ofNat 2147483647), some (2, .ofNat 0)))], [], zyh455, 0, 0), [], 0), (zyx354r, zyh455), 13, 1620)
noncomputable def zbzyx354c : Bool := zchkX [(94, 15)] zprog2 (zovW [zyx347d, zyx353d]) 100000 k2X8_product [zyx348q, zyx342q] [zyx354q] [zyx354q]
noncomputable def zyx354d : zKw := (265, 5, 13, 1620, zyx354a, zyh454, [(zyx354r, zyh455)])
noncomputable def zbzyx354e : Bool := zrunw zprog2 (zovW [zyx347d, zyx353d]) 100000 (zcutW [(94, 15)] none ((zyx354r, zyh455), 13, 1620) [zyx354q, zyx348q, zyx342q]) 13 1620 k2X8_product (zkin zyx354r zyh455) 0 (zargs 0 zyx354a, [], (zyh454.1, zyh454.2.1, 0), 0, 0)
/-! X8_sum ((('r', 102), 40, 38),) -/
noncomputable def zyx355a : List zAV := [.inr (.inr (.inl 94)), .inl ((.ofNat 1, .ofNat 4), none)]
def zyx355r : Option zAV := some (.inl ((.negSucc 2147483647, .ofNat 2147483647), none))
noncomputable def zyx355q : zPw := ((6, ([(0, .inr (.inr (.inl 94))), (1, .inl ((.ofNat 0, .ofNat 4), some (1, .ofNat 0))), (2, .inl ((.negSucc 2147483647, .ofNat 2147483647), some (2, .ofNat 0)))], [], zyh455, 0, 0), [], 0), (zyx355r, zyh455), 14, 1740)
noncomputable def zbzyx355c : Bool := zchkX [(94, 15)] zprog2 (zovW [zyx348d, zyx354d]) 100000 kX8_sum [zyx349q, zyx343q] [zyx355q] [zyx355q]
noncomputable def zyx355d : zKw := (284, 5, 14, 1740, zyx355a, zyh454, [(zyx355r, zyh455)])
noncomputable def zbzyx355e : Bool := zrunw zprog2 (zovW [zyx348d, zyx354d]) 100000 (zcutW [(94, 15)] none ((zyx355r, zyh455), 14, 1740) [zyx355q, zyx349q, zyx343q]) 14 1740 kX8_sum (zkin zyx355r zyh455) 0 (zargs 0 zyx355a, [], (zyh454.1, zyh454.2.1, 0), 0, 0)
/-! X8_heldBy -/
noncomputable def zyx356a : List zAV := [.inr (.inr (.inl 94)), .inl ((.ofNat 1, .ofNat 4), none)]
def zyx356r : Option zAV := some (.inl ((.negSucc 2147483647, .ofNat 2147483647), none))
noncomputable def zyx356p : List zPw := []
noncomputable def zyx356d : zKw := (229, 3, 15, 1860, zyx356a, zyh454, [(zyx356r, zyh455)])
noncomputable def zbzyx356e : Bool := zrunw zprog2 (zovW [zyx349d, zyx355d, zyx338d]) 100000 (zcutW [] none ((zyx356r, zyh455), 15, 1860) zyx356p) 15 1860 kX8_heldBy (zkin zyx356r zyh455) 0 (zargs 0 zyx356a, [], (zyh454.1, zyh454.2.1, 0), 0, 0)
/-! X8_oneOf -/
noncomputable def zyx357a : List zAV := [zyv320, zyv362, zyv363]
noncomputable def zyx357q : List (Option zAV × zH) := [(some (.inl ((.ofNat 0, .ofNat 0), none)), zyh464), (some (.inl ((.negSucc 175, .ofNat 79), none)), zyh453)]
noncomputable def zyx357d : zKw := (260, 3, 4, 480, zyx357a, zyh451, zyx357q)
noncomputable def zbzyx357e : Bool := zrunw zprog2 (zovW []) 100000 zcut0 4 480 kX8_oneOf (zkinL zyx357q) 0 (zargs 0 zyx357a, [], (zyh451.1, zyh451.2.1, 0), 0, 0)
/-! X8_number -/
noncomputable def zyx358a : List zAV := [.inr (.inr (.inl 94)), .inl ((.ofNat 3, .ofNat 3), none)]
def zyx358r : Option zAV := some (.inl ((.negSucc 2147483647, .ofNat 2147483647), none))
noncomputable def zyx358p : List zPw := [((11, ([(0, .inr (.inr (.inl 94))), (1, .inl ((.ofNat 3, .ofNat 3), some (1, .ofNat 0))), (2, .inl ((.negSucc 2147483647, .ofNat 2147483647), some (2, .ofNat 0))), (3, .inl ((.ofNat 1, .ofNat 3), some (3, .ofNat 0)))], [], zyh452, 0, 0), [(3, .negSucc 1)], .ofNat 7), (zyx358r, zyh452), 5, 600)]
noncomputable def zyx358d : zKw := (259, 4, 5, 600, zyx358a, zyh451, [(zyx358r, zyh452)])
noncomputable def zbzyx358c : Bool := zchkX [] zprog2 (zovW [zyx357d]) 100000 kX8_number [] zyx358p zyx358p
noncomputable def zbzyx358e : Bool := zrunw zprog2 (zovW [zyx357d]) 100000 (zcutW [] none ((zyx358r, zyh452), 5, 600) zyx358p) 5 600 kX8_number (zkin zyx358r zyh452) 0 (zargs 0 zyx358a, [], (zyh451.1, zyh451.2.1, 0), 0, 0)
/-! X8_thing -/
noncomputable def zyx359a : List zAV := [.inr (.inr (.inl 94)), .inl ((.ofNat 0, .ofNat 4), none)]
def zyx359r : Option zAV := some (.inl ((.negSucc 2147483647, .ofNat 2147483647), none))
noncomputable def zyx359p : List zPw := []
noncomputable def zyx359d : zKw := (292, 4, 16, 1980, zyx359a, zyh451, [(zyx359r, zyh452)])
noncomputable def zbzyx359e : Bool := zrunw zprog2 (zovW [zyx356d, zyx353d, zyx338d, zyx358d, zyx337d]) 100000 (zcutW [] none ((zyx359r, zyh452), 16, 1980) zyx359p) 16 1980 k2X8_thing (zkin zyx359r zyh452) 0 (zargs 0 zyx359a, [], (zyh451.1, zyh451.2.1, 0), 0, 0)
/-! X8_product ((('r', 102), 40, 37),) -/
noncomputable def zyx360a : List zAV := [.inr (.inr (.inl 94)), .inl ((.ofNat 0, .ofNat 4), none)]
def zyx360r : Option zAV := some (.inl ((.negSucc 2147483647, .ofNat 2147483647), none))
noncomputable def zyx360q : zPw := ((6, ([(0, .inr (.inr (.inl 94))), (1, .inl ((.ofNat 0, .ofNat 4), some (1, .ofNat 0))), (2, .inl ((.negSucc 2147483647, .ofNat 2147483647), some (2, .ofNat 0)))], [], zyh452, 0, 0), [], 0), (zyx360r, zyh452), 17, 2100)
noncomputable def zbzyx360c : Bool := zchkX [(94, 15)] zprog2 (zovW [zyx353d, zyx359d]) 100000 k2X8_product [zyx354q, zyx348q, zyx342q] [zyx360q] [zyx360q]
noncomputable def zyx360d : zKw := (265, 5, 17, 2100, zyx360a, zyh451, [(zyx360r, zyh452)])
noncomputable def zbzyx360e : Bool := zrunw zprog2 (zovW [zyx353d, zyx359d]) 100000 (zcutW [(94, 15)] none ((zyx360r, zyh452), 17, 2100) [zyx360q, zyx354q, zyx348q, zyx342q]) 17 2100 k2X8_product (zkin zyx360r zyh452) 0 (zargs 0 zyx360a, [], (zyh451.1, zyh451.2.1, 0), 0, 0)
/-! X8_sum ((('r', 102), 40, 37),) -/
noncomputable def zyx361a : List zAV := [.inr (.inr (.inl 94)), .inl ((.ofNat 1, .ofNat 4), none)]
def zyx361r : Option zAV := some (.inl ((.negSucc 2147483647, .ofNat 2147483647), none))
noncomputable def zyx361q : zPw := ((6, ([(0, .inr (.inr (.inl 94))), (1, .inl ((.ofNat 0, .ofNat 4), some (1, .ofNat 0))), (2, .inl ((.negSucc 2147483647, .ofNat 2147483647), some (2, .ofNat 0)))], [], zyh452, 0, 0), [], 0), (zyx361r, zyh452), 18, 2220)
noncomputable def zbzyx361c : Bool := zchkX [(94, 15)] zprog2 (zovW [zyx354d, zyx360d]) 100000 kX8_sum [zyx355q, zyx349q, zyx343q] [zyx361q] [zyx361q]
noncomputable def zyx361d : zKw := (284, 5, 18, 2220, zyx361a, zyh451, [(zyx361r, zyh452)])
noncomputable def zbzyx361e : Bool := zrunw zprog2 (zovW [zyx354d, zyx360d]) 100000 (zcutW [(94, 15)] none ((zyx361r, zyh452), 18, 2220) [zyx361q, zyx355q, zyx349q, zyx343q]) 18 2220 kX8_sum (zkin zyx361r zyh452) 0 (zargs 0 zyx361a, [], (zyh451.1, zyh451.2.1, 0), 0, 0)
/-! X8_heldBy -/
noncomputable def zyx362a : List zAV := [.inr (.inr (.inl 94)), .inl ((.ofNat 1, .ofNat 4), none)]
def zyx362r : Option zAV := some (.inl ((.negSucc 2147483647, .ofNat 2147483647), none))
noncomputable def zyx362p : List zPw := []
noncomputable def zyx362d : zKw := (229, 3, 19, 2340, zyx362a, zyh451, [(zyx362r, zyh452)])
noncomputable def zbzyx362e : Bool := zrunw zprog2 (zovW [zyx355d, zyx361d, zyx337d]) 100000 (zcutW [] none ((zyx362r, zyh452), 19, 2340) zyx362p) 19 2340 kX8_heldBy (zkin zyx362r zyh452) 0 (zargs 0 zyx362a, [], (zyh451.1, zyh451.2.1, 0), 0, 0)
/-! X8_oneOf -/
noncomputable def zyx363a : List zAV := [zyv320, zyv362, zyv363]
noncomputable def zyx363q : List (Option zAV × zH) := [(some (.inl ((.ofNat 0, .ofNat 0), none)), zyh465), (some (.inl ((.negSucc 175, .ofNat 79), none)), zyh450)]
noncomputable def zyx363d : zKw := (260, 3, 4, 480, zyx363a, zyh448, zyx363q)
noncomputable def zbzyx363e : Bool := zrunw zprog2 (zovW []) 100000 zcut0 4 480 kX8_oneOf (zkinL zyx363q) 0 (zargs 0 zyx363a, [], (zyh448.1, zyh448.2.1, 0), 0, 0)
/-! X8_number -/
noncomputable def zyx364a : List zAV := [.inr (.inr (.inl 94)), .inl ((.ofNat 3, .ofNat 3), none)]
def zyx364r : Option zAV := some (.inl ((.negSucc 2147483647, .ofNat 2147483647), none))
noncomputable def zyx364p : List zPw := [((11, ([(0, .inr (.inr (.inl 94))), (1, .inl ((.ofNat 3, .ofNat 3), some (1, .ofNat 0))), (2, .inl ((.negSucc 2147483647, .ofNat 2147483647), some (2, .ofNat 0))), (3, .inl ((.ofNat 1, .ofNat 3), some (3, .ofNat 0)))], [], zyh449, 0, 0), [(3, .negSucc 1)], .ofNat 7), (zyx364r, zyh449), 5, 600)]
noncomputable def zyx364d : zKw := (259, 4, 5, 600, zyx364a, zyh448, [(zyx364r, zyh449)])
noncomputable def zbzyx364c : Bool := zchkX [] zprog2 (zovW [zyx363d]) 100000 kX8_number [] zyx364p zyx364p
noncomputable def zbzyx364e : Bool := zrunw zprog2 (zovW [zyx363d]) 100000 (zcutW [] none ((zyx364r, zyh449), 5, 600) zyx364p) 5 600 kX8_number (zkin zyx364r zyh449) 0 (zargs 0 zyx364a, [], (zyh448.1, zyh448.2.1, 0), 0, 0)
/-! X8_thing -/
noncomputable def zyx365a : List zAV := [.inr (.inr (.inl 94)), .inl ((.ofNat 0, .ofNat 4), none)]
def zyx365r : Option zAV := some (.inl ((.negSucc 2147483647, .ofNat 2147483647), none))
noncomputable def zyx365p : List zPw := []
noncomputable def zyx365d : zKw := (292, 4, 20, 2460, zyx365a, zyh448, [(zyx365r, zyh449)])
noncomputable def zbzyx365e : Bool := zrunw zprog2 (zovW [zyx362d, zyx359d, zyx337d, zyx364d, zyx336d]) 100000 (zcutW [] none ((zyx365r, zyh449), 20, 2460) zyx365p) 20 2460 k2X8_thing (zkin zyx365r zyh449) 0 (zargs 0 zyx365a, [], (zyh448.1, zyh448.2.1, 0), 0, 0)
/-! X8_product ((('r', 102), 40, 36),) -/
noncomputable def zyx366a : List zAV := [.inr (.inr (.inl 94)), .inl ((.ofNat 0, .ofNat 4), none)]
def zyx366r : Option zAV := some (.inl ((.negSucc 2147483647, .ofNat 2147483647), none))
noncomputable def zyx366q : zPw := ((6, ([(0, .inr (.inr (.inl 94))), (1, .inl ((.ofNat 0, .ofNat 4), some (1, .ofNat 0))), (2, .inl ((.negSucc 2147483647, .ofNat 2147483647), some (2, .ofNat 0)))], [], zyh449, 0, 0), [], 0), (zyx366r, zyh449), 21, 2580)
noncomputable def zbzyx366c : Bool := zchkX [(94, 15)] zprog2 (zovW [zyx359d, zyx365d]) 100000 k2X8_product [zyx360q, zyx354q, zyx348q, zyx342q] [zyx366q] [zyx366q]
noncomputable def zyx366d : zKw := (265, 5, 21, 2580, zyx366a, zyh448, [(zyx366r, zyh449)])
noncomputable def zbzyx366e : Bool := zrunw zprog2 (zovW [zyx359d, zyx365d]) 100000 (zcutW [(94, 15)] none ((zyx366r, zyh449), 21, 2580) [zyx366q, zyx360q, zyx354q, zyx348q, zyx342q]) 21 2580 k2X8_product (zkin zyx366r zyh449) 0 (zargs 0 zyx366a, [], (zyh448.1, zyh448.2.1, 0), 0, 0)
/-! X8_sum ((('r', 102), 40, 36),) -/
noncomputable def zyx367a : List zAV := [.inr (.inr (.inl 94)), .inl ((.ofNat 1, .ofNat 4), none)]
def zyx367r : Option zAV := some (.inl ((.negSucc 2147483647, .ofNat 2147483647), none))
noncomputable def zyx367q : zPw := ((6, ([(0, .inr (.inr (.inl 94))), (1, .inl ((.ofNat 0, .ofNat 4), some (1, .ofNat 0))), (2, .inl ((.negSucc 2147483647, .ofNat 2147483647), some (2, .ofNat 0)))], [], zyh449, 0, 0), [], 0), (zyx367r, zyh449), 22, 2700)
noncomputable def zbzyx367c : Bool := zchkX [(94, 15)] zprog2 (zovW [zyx360d, zyx366d]) 100000 kX8_sum [zyx361q, zyx355q, zyx349q, zyx343q] [zyx367q] [zyx367q]
noncomputable def zyx367d : zKw := (284, 5, 22, 2700, zyx367a, zyh448, [(zyx367r, zyh449)])
noncomputable def zbzyx367e : Bool := zrunw zprog2 (zovW [zyx360d, zyx366d]) 100000 (zcutW [(94, 15)] none ((zyx367r, zyh449), 22, 2700) [zyx367q, zyx361q, zyx355q, zyx349q, zyx343q]) 22 2700 kX8_sum (zkin zyx367r zyh449) 0 (zargs 0 zyx367a, [], (zyh448.1, zyh448.2.1, 0), 0, 0)
/-! X8_heldBy -/
noncomputable def zyx368a : List zAV := [.inr (.inr (.inl 94)), .inl ((.ofNat 1, .ofNat 4), none)]
def zyx368r : Option zAV := some (.inl ((.negSucc 2147483647, .ofNat 2147483647), none))
noncomputable def zyx368p : List zPw := []
noncomputable def zyx368d : zKw := (229, 3, 23, 2820, zyx368a, zyh448, [(zyx368r, zyh449)])
noncomputable def zbzyx368e : Bool := zrunw zprog2 (zovW [zyx361d, zyx367d, zyx336d]) 100000 (zcutW [] none ((zyx368r, zyh449), 23, 2820) zyx368p) 23 2820 kX8_heldBy (zkin zyx368r zyh449) 0 (zargs 0 zyx368a, [], (zyh448.1, zyh448.2.1, 0), 0, 0)
/-! X8_oneOf -/
noncomputable def zyx369a : List zAV := [zyv320, zyv362, zyv363]
noncomputable def zyx369q : List (Option zAV × zH) := [(some (.inl ((.ofNat 0, .ofNat 0), none)), zyh466), (some (.inl ((.negSucc 175, .ofNat 79), none)), zyh447)]
noncomputable def zyx369d : zKw := (260, 3, 4, 480, zyx369a, zyh445, zyx369q)
noncomputable def zbzyx369e : Bool := zrunw zprog2 (zovW []) 100000 zcut0 4 480 kX8_oneOf (zkinL zyx369q) 0 (zargs 0 zyx369a, [], (zyh445.1, zyh445.2.1, 0), 0, 0)
/-! X8_number -/
noncomputable def zyx370a : List zAV := [.inr (.inr (.inl 94)), .inl ((.ofNat 3, .ofNat 3), none)]
def zyx370r : Option zAV := some (.inl ((.negSucc 2147483647, .ofNat 2147483647), none))
noncomputable def zyx370p : List zPw := [((11, ([(0, .inr (.inr (.inl 94))), (1, .inl ((.ofNat 3, .ofNat 3), some (1, .ofNat 0))), (2, .inl ((.negSucc 2147483647, .ofNat 2147483647), some (2, .ofNat 0))), (3, .inl ((.ofNat 1, .ofNat 3), some (3, .ofNat 0)))], [], zyh446, 0, 0), [(3, .negSucc 1)], .ofNat 7), (zyx370r, zyh446), 5, 600)]
noncomputable def zyx370d : zKw := (259, 4, 5, 600, zyx370a, zyh445, [(zyx370r, zyh446)])
noncomputable def zbzyx370c : Bool := zchkX [] zprog2 (zovW [zyx369d]) 100000 kX8_number [] zyx370p zyx370p
noncomputable def zbzyx370e : Bool := zrunw zprog2 (zovW [zyx369d]) 100000 (zcutW [] none ((zyx370r, zyh446), 5, 600) zyx370p) 5 600 kX8_number (zkin zyx370r zyh446) 0 (zargs 0 zyx370a, [], (zyh445.1, zyh445.2.1, 0), 0, 0)
/-! X8_thing -/
noncomputable def zyx371a : List zAV := [.inr (.inr (.inl 94)), .inl ((.ofNat 0, .ofNat 4), none)]
def zyx371r : Option zAV := some (.inl ((.negSucc 2147483647, .ofNat 2147483647), none))
noncomputable def zyx371p : List zPw := []
noncomputable def zyx371d : zKw := (292, 4, 24, 2940, zyx371a, zyh445, [(zyx371r, zyh446)])
noncomputable def zbzyx371e : Bool := zrunw zprog2 (zovW [zyx368d, zyx365d, zyx336d, zyx370d, zyx335d]) 100000 (zcutW [] none ((zyx371r, zyh446), 24, 2940) zyx371p) 24 2940 k2X8_thing (zkin zyx371r zyh446) 0 (zargs 0 zyx371a, [], (zyh445.1, zyh445.2.1, 0), 0, 0)
/-! X8_product ((('r', 102), 40, 35),) -/
noncomputable def zyx372a : List zAV := [.inr (.inr (.inl 94)), .inl ((.ofNat 0, .ofNat 4), none)]
def zyx372r : Option zAV := some (.inl ((.negSucc 2147483647, .ofNat 2147483647), none))
noncomputable def zyx372q : zPw := ((6, ([(0, .inr (.inr (.inl 94))), (1, .inl ((.ofNat 0, .ofNat 4), some (1, .ofNat 0))), (2, .inl ((.negSucc 2147483647, .ofNat 2147483647), some (2, .ofNat 0)))], [], zyh446, 0, 0), [], 0), (zyx372r, zyh446), 25, 3060)
noncomputable def zbzyx372c : Bool := zchkX [(94, 15)] zprog2 (zovW [zyx365d, zyx371d]) 100000 k2X8_product [zyx366q, zyx360q, zyx354q, zyx348q, zyx342q] [zyx372q] [zyx372q]
noncomputable def zyx372d : zKw := (265, 5, 25, 3060, zyx372a, zyh445, [(zyx372r, zyh446)])
noncomputable def zbzyx372e : Bool := zrunw zprog2 (zovW [zyx365d, zyx371d]) 100000 (zcutW [(94, 15)] none ((zyx372r, zyh446), 25, 3060) [zyx372q, zyx366q, zyx360q, zyx354q, zyx348q, zyx342q]) 25 3060 k2X8_product (zkin zyx372r zyh446) 0 (zargs 0 zyx372a, [], (zyh445.1, zyh445.2.1, 0), 0, 0)
/-! X8_sum ((('r', 102), 40, 35),) -/
noncomputable def zyx373a : List zAV := [.inr (.inr (.inl 94)), .inl ((.ofNat 1, .ofNat 4), none)]
def zyx373r : Option zAV := some (.inl ((.negSucc 2147483647, .ofNat 2147483647), none))
noncomputable def zyx373q : zPw := ((6, ([(0, .inr (.inr (.inl 94))), (1, .inl ((.ofNat 0, .ofNat 4), some (1, .ofNat 0))), (2, .inl ((.negSucc 2147483647, .ofNat 2147483647), some (2, .ofNat 0)))], [], zyh446, 0, 0), [], 0), (zyx373r, zyh446), 26, 3180)
noncomputable def zbzyx373c : Bool := zchkX [(94, 15)] zprog2 (zovW [zyx366d, zyx372d]) 100000 kX8_sum [zyx367q, zyx361q, zyx355q, zyx349q, zyx343q] [zyx373q] [zyx373q]
noncomputable def zyx373d : zKw := (284, 5, 26, 3180, zyx373a, zyh445, [(zyx373r, zyh446)])
noncomputable def zbzyx373e : Bool := zrunw zprog2 (zovW [zyx366d, zyx372d]) 100000 (zcutW [(94, 15)] none ((zyx373r, zyh446), 26, 3180) [zyx373q, zyx367q, zyx361q, zyx355q, zyx349q, zyx343q]) 26 3180 kX8_sum (zkin zyx373r zyh446) 0 (zargs 0 zyx373a, [], (zyh445.1, zyh445.2.1, 0), 0, 0)
/-! X8_heldBy -/
noncomputable def zyx374a : List zAV := [.inr (.inr (.inl 94)), .inl ((.ofNat 1, .ofNat 4), none)]
def zyx374r : Option zAV := some (.inl ((.negSucc 2147483647, .ofNat 2147483647), none))
noncomputable def zyx374p : List zPw := []
noncomputable def zyx374d : zKw := (229, 3, 27, 3300, zyx374a, zyh445, [(zyx374r, zyh446)])
noncomputable def zbzyx374e : Bool := zrunw zprog2 (zovW [zyx367d, zyx373d, zyx335d]) 100000 (zcutW [] none ((zyx374r, zyh446), 27, 3300) zyx374p) 27 3300 kX8_heldBy (zkin zyx374r zyh446) 0 (zargs 0 zyx374a, [], (zyh445.1, zyh445.2.1, 0), 0, 0)
/-! X8_oneOf -/
noncomputable def zyx375a : List zAV := [zyv320, zyv362, zyv363]
noncomputable def zyx375q : List (Option zAV × zH) := [(some (.inl ((.ofNat 0, .ofNat 0), none)), zyh467), (some (.inl ((.negSucc 175, .ofNat 79), none)), zyh444)]
noncomputable def zyx375d : zKw := (260, 3, 4, 480, zyx375a, zyh442, zyx375q)
noncomputable def zbzyx375e : Bool := zrunw zprog2 (zovW []) 100000 zcut0 4 480 kX8_oneOf (zkinL zyx375q) 0 (zargs 0 zyx375a, [], (zyh442.1, zyh442.2.1, 0), 0, 0)
/-! X8_number -/
noncomputable def zyx376a : List zAV := [.inr (.inr (.inl 94)), .inl ((.ofNat 3, .ofNat 3), none)]
def zyx376r : Option zAV := some (.inl ((.negSucc 2147483647, .ofNat 2147483647), none))
noncomputable def zyx376p : List zPw := [((11, ([(0, .inr (.inr (.inl 94))), (1, .inl ((.ofNat 3, .ofNat 3), some (1, .ofNat 0))), (2, .inl ((.negSucc 2147483647, .ofNat 2147483647), some (2, .ofNat 0))), (3, .inl ((.ofNat 1, .ofNat 3), some (3, .ofNat 0)))], [], zyh443, 0, 0), [(3, .negSucc 1)], .ofNat 7), (zyx376r, zyh443), 5, 600)]
noncomputable def zyx376d : zKw := (259, 4, 5, 600, zyx376a, zyh442, [(zyx376r, zyh443)])
noncomputable def zbzyx376c : Bool := zchkX [] zprog2 (zovW [zyx375d]) 100000 kX8_number [] zyx376p zyx376p
noncomputable def zbzyx376e : Bool := zrunw zprog2 (zovW [zyx375d]) 100000 (zcutW [] none ((zyx376r, zyh443), 5, 600) zyx376p) 5 600 kX8_number (zkin zyx376r zyh443) 0 (zargs 0 zyx376a, [], (zyh442.1, zyh442.2.1, 0), 0, 0)
/-! X8_thing -/
noncomputable def zyx377a : List zAV := [.inr (.inr (.inl 94)), .inl ((.ofNat 0, .ofNat 4), none)]
def zyx377r : Option zAV := some (.inl ((.negSucc 2147483647, .ofNat 2147483647), none))
noncomputable def zyx377p : List zPw := []
noncomputable def zyx377d : zKw := (292, 4, 28, 3420, zyx377a, zyh442, [(zyx377r, zyh443)])
noncomputable def zbzyx377e : Bool := zrunw zprog2 (zovW [zyx374d, zyx371d, zyx335d, zyx376d, zyx334d]) 100000 (zcutW [] none ((zyx377r, zyh443), 28, 3420) zyx377p) 28 3420 k2X8_thing (zkin zyx377r zyh443) 0 (zargs 0 zyx377a, [], (zyh442.1, zyh442.2.1, 0), 0, 0)
/-! X8_product ((('r', 102), 40, 34),) -/
noncomputable def zyx378a : List zAV := [.inr (.inr (.inl 94)), .inl ((.ofNat 0, .ofNat 4), none)]
def zyx378r : Option zAV := some (.inl ((.negSucc 2147483647, .ofNat 2147483647), none))
noncomputable def zyx378q : zPw := ((6, ([(0, .inr (.inr (.inl 94))), (1, .inl ((.ofNat 0, .ofNat 4), some (1, .ofNat 0))), (2, .inl ((.negSucc 2147483647, .ofNat 2147483647), some (2, .ofNat 0)))], [], zyh443, 0, 0), [], 0), (zyx378r, zyh443), 29, 3540)
noncomputable def zbzyx378c : Bool := zchkX [(94, 15)] zprog2 (zovW [zyx371d, zyx377d]) 100000 k2X8_product [zyx372q, zyx366q, zyx360q, zyx354q, zyx348q, zyx342q] [zyx378q] [zyx378q]
noncomputable def zyx378d : zKw := (265, 5, 29, 3540, zyx378a, zyh442, [(zyx378r, zyh443)])
noncomputable def zbzyx378e : Bool := zrunw zprog2 (zovW [zyx371d, zyx377d]) 100000 (zcutW [(94, 15)] none ((zyx378r, zyh443), 29, 3540) [zyx378q, zyx372q, zyx366q, zyx360q, zyx354q, zyx348q, zyx342q]) 29 3540 k2X8_product (zkin zyx378r zyh443) 0 (zargs 0 zyx378a, [], (zyh442.1, zyh442.2.1, 0), 0, 0)
/-! X8_sum ((('r', 102), 40, 34),) -/
noncomputable def zyx379a : List zAV := [.inr (.inr (.inl 94)), .inl ((.ofNat 1, .ofNat 4), none)]
def zyx379r : Option zAV := some (.inl ((.negSucc 2147483647, .ofNat 2147483647), none))
noncomputable def zyx379q : zPw := ((6, ([(0, .inr (.inr (.inl 94))), (1, .inl ((.ofNat 0, .ofNat 4), some (1, .ofNat 0))), (2, .inl ((.negSucc 2147483647, .ofNat 2147483647), some (2, .ofNat 0)))], [], zyh443, 0, 0), [], 0), (zyx379r, zyh443), 30, 3660)
noncomputable def zbzyx379c : Bool := zchkX [(94, 15)] zprog2 (zovW [zyx372d, zyx378d]) 100000 kX8_sum [zyx373q, zyx367q, zyx361q, zyx355q, zyx349q, zyx343q] [zyx379q] [zyx379q]
noncomputable def zyx379d : zKw := (284, 5, 30, 3660, zyx379a, zyh442, [(zyx379r, zyh443)])
noncomputable def zbzyx379e : Bool := zrunw zprog2 (zovW [zyx372d, zyx378d]) 100000 (zcutW [(94, 15)] none ((zyx379r, zyh443), 30, 3660) [zyx379q, zyx373q, zyx367q, zyx361q, zyx355q, zyx349q, zyx343q]) 30 3660 kX8_sum (zkin zyx379r zyh443) 0 (zargs 0 zyx379a, [], (zyh442.1, zyh442.2.1, 0), 0, 0)
/-! X8_heldBy -/
noncomputable def zyx380a : List zAV := [.inr (.inr (.inl 94)), .inl ((.ofNat 1, .ofNat 4), none)]
def zyx380r : Option zAV := some (.inl ((.negSucc 2147483647, .ofNat 2147483647), none))
noncomputable def zyx380p : List zPw := []
noncomputable def zyx380d : zKw := (229, 3, 31, 3780, zyx380a, zyh442, [(zyx380r, zyh443)])
noncomputable def zbzyx380e : Bool := zrunw zprog2 (zovW [zyx373d, zyx379d, zyx334d]) 100000 (zcutW [] none ((zyx380r, zyh443), 31, 3780) zyx380p) 31 3780 kX8_heldBy (zkin zyx380r zyh443) 0 (zargs 0 zyx380a, [], (zyh442.1, zyh442.2.1, 0), 0, 0)
/-! X8_oneOf -/
noncomputable def zyx381a : List zAV := [zyv320, zyv362, zyv363]
noncomputable def zyx381q : List (Option zAV × zH) := [(some (.inl ((.ofNat 0, .ofNat 0), none)), zyh468), (some (.inl ((.negSucc 175, .ofNat 79), none)), zyh441)]
noncomputable def zyx381d : zKw := (260, 3, 4, 480, zyx381a, zyh439, zyx381q)
noncomputable def zbzyx381e : Bool := zrunw zprog2 (zovW []) 100000 zcut0 4 480 kX8_oneOf (zkinL zyx381q) 0 (zargs 0 zyx381a, [], (zyh439.1, zyh439.2.1, 0), 0, 0)
/-! X8_number -/
noncomputable def zyx382a : List zAV := [.inr (.inr (.inl 94)), .inl ((.ofNat 3, .ofNat 3), none)]
def zyx382r : Option zAV := some (.inl ((.negSucc 2147483647, .ofNat 2147483647), none))
noncomputable def zyx382p : List zPw := [((11, ([(0, .inr (.inr (.inl 94))), (1, .inl ((.ofNat 3, .ofNat 3), some (1, .ofNat 0))), (2, .inl ((.negSucc 2147483647, .ofNat 2147483647), some (2, .ofNat 0))), (3, .inl ((.ofNat 1, .ofNat 3), some (3, .ofNat 0)))], [], zyh440, 0, 0), [(3, .negSucc 1)], .ofNat 7), (zyx382r, zyh440), 5, 600)]
noncomputable def zyx382d : zKw := (259, 4, 5, 600, zyx382a, zyh439, [(zyx382r, zyh440)])
noncomputable def zbzyx382c : Bool := zchkX [] zprog2 (zovW [zyx381d]) 100000 kX8_number [] zyx382p zyx382p
noncomputable def zbzyx382e : Bool := zrunw zprog2 (zovW [zyx381d]) 100000 (zcutW [] none ((zyx382r, zyh440), 5, 600) zyx382p) 5 600 kX8_number (zkin zyx382r zyh440) 0 (zargs 0 zyx382a, [], (zyh439.1, zyh439.2.1, 0), 0, 0)
/-! X8_thing -/
noncomputable def zyx383a : List zAV := [.inr (.inr (.inl 94)), .inl ((.ofNat 0, .ofNat 4), none)]
def zyx383r : Option zAV := some (.inl ((.negSucc 2147483647, .ofNat 2147483647), none))
noncomputable def zyx383p : List zPw := []
noncomputable def zyx383d : zKw := (292, 4, 32, 3900, zyx383a, zyh439, [(zyx383r, zyh440)])
noncomputable def zbzyx383e : Bool := zrunw zprog2 (zovW [zyx380d, zyx377d, zyx334d, zyx382d, zyx333d]) 100000 (zcutW [] none ((zyx383r, zyh440), 32, 3900) zyx383p) 32 3900 k2X8_thing (zkin zyx383r zyh440) 0 (zargs 0 zyx383a, [], (zyh439.1, zyh439.2.1, 0), 0, 0)
/-! X8_product ((('r', 102), 40, 33),) -/
noncomputable def zyx384a : List zAV := [.inr (.inr (.inl 94)), .inl ((.ofNat 0, .ofNat 4), none)]
def zyx384r : Option zAV := some (.inl ((.negSucc 2147483647, .ofNat 2147483647), none))
noncomputable def zyx384q : zPw := ((6, ([(0, .inr (.inr (.inl 94))), (1, .inl ((.ofNat 0, .ofNat 4), some (1, .ofNat 0))), (2, .inl ((.negSucc 2147483647, .ofNat 2147483647), some (2, .ofNat 0)))], [], zyh440, 0, 0), [], 0), (zyx384r, zyh440), 33, 4020)
noncomputable def zbzyx384c : Bool := zchkX [(94, 15)] zprog2 (zovW [zyx377d, zyx383d]) 100000 k2X8_product [zyx378q, zyx372q, zyx366q, zyx360q, zyx354q, zyx348q, zyx342q] [zyx384q] [zyx384q]
noncomputable def zyx384d : zKw := (265, 5, 33, 4020, zyx384a, zyh439, [(zyx384r, zyh440)])
noncomputable def zbzyx384e : Bool := zrunw zprog2 (zovW [zyx377d, zyx383d]) 100000 (zcutW [(94, 15)] none ((zyx384r, zyh440), 33, 4020) [zyx384q, zyx378q, zyx372q, zyx366q, zyx360q, zyx354q, zyx348q, zyx342q]) 33 4020 k2X8_product (zkin zyx384r zyh440) 0 (zargs 0 zyx384a, [], (zyh439.1, zyh439.2.1, 0), 0, 0)
/-! X8_sum ((('r', 102), 40, 33),) -/
noncomputable def zyx385a : List zAV := [.inr (.inr (.inl 94)), .inl ((.ofNat 1, .ofNat 4), none)]
def zyx385r : Option zAV := some (.inl ((.negSucc 2147483647, .ofNat 2147483647), none))
noncomputable def zyx385q : zPw := ((6, ([(0, .inr (.inr (.inl 94))), (1, .inl ((.ofNat 0, .ofNat 4), some (1, .ofNat 0))), (2, .inl ((.negSucc 2147483647, .ofNat 2147483647), some (2, .ofNat 0)))], [], zyh440, 0, 0), [], 0), (zyx385r, zyh440), 34, 4140)
noncomputable def zbzyx385c : Bool := zchkX [(94, 15)] zprog2 (zovW [zyx378d, zyx384d]) 100000 kX8_sum [zyx379q, zyx373q, zyx367q, zyx361q, zyx355q, zyx349q, zyx343q] [zyx385q] [zyx385q]
noncomputable def zyx385d : zKw := (284, 5, 34, 4140, zyx385a, zyh439, [(zyx385r, zyh440)])
noncomputable def zbzyx385e : Bool := zrunw zprog2 (zovW [zyx378d, zyx384d]) 100000 (zcutW [(94, 15)] none ((zyx385r, zyh440), 34, 4140) [zyx385q, zyx379q, zyx373q, zyx367q, zyx361q, zyx355q, zyx349q, zyx343q]) 34 4140 kX8_sum (zkin zyx385r zyh440) 0 (zargs 0 zyx385a, [], (zyh439.1, zyh439.2.1, 0), 0, 0)
/-! X8_heldBy -/
noncomputable def zyx386a : List zAV := [.inr (.inr (.inl 94)), .inl ((.ofNat 1, .ofNat 4), none)]
def zyx386r : Option zAV := some (.inl ((.negSucc 2147483647, .ofNat 2147483647), none))
noncomputable def zyx386p : List zPw := []
noncomputable def zyx386d : zKw := (229, 3, 35, 4260, zyx386a, zyh439, [(zyx386r, zyh440)])
noncomputable def zbzyx386e : Bool := zrunw zprog2 (zovW [zyx379d, zyx385d, zyx333d]) 100000 (zcutW [] none ((zyx386r, zyh440), 35, 4260) zyx386p) 35 4260 kX8_heldBy (zkin zyx386r zyh440) 0 (zargs 0 zyx386a, [], (zyh439.1, zyh439.2.1, 0), 0, 0)
/-! X8_oneOf -/
noncomputable def zyx387a : List zAV := [zyv320, zyv362, zyv363]
noncomputable def zyx387q : List (Option zAV × zH) := [(some (.inl ((.ofNat 0, .ofNat 0), none)), zyh469), (some (.inl ((.negSucc 175, .ofNat 79), none)), zyh438)]
noncomputable def zyx387d : zKw := (260, 3, 4, 480, zyx387a, zyh436, zyx387q)
noncomputable def zbzyx387e : Bool := zrunw zprog2 (zovW []) 100000 zcut0 4 480 kX8_oneOf (zkinL zyx387q) 0 (zargs 0 zyx387a, [], (zyh436.1, zyh436.2.1, 0), 0, 0)
/-! X8_number -/
noncomputable def zyx388a : List zAV := [.inr (.inr (.inl 94)), .inl ((.ofNat 3, .ofNat 3), none)]
def zyx388r : Option zAV := some (.inl ((.negSucc 2147483647, .ofNat 2147483647), none))
noncomputable def zyx388p : List zPw := [((11, ([(0, .inr (.inr (.inl 94))), (1, .inl ((.ofNat 3, .ofNat 3), some (1, .ofNat 0))), (2, .inl ((.negSucc 2147483647, .ofNat 2147483647), some (2, .ofNat 0))), (3, .inl ((.ofNat 1, .ofNat 3), some (3, .ofNat 0)))], [], zyh437, 0, 0), [(3, .negSucc 1)], .ofNat 7), (zyx388r, zyh437), 5, 600)]
noncomputable def zyx388d : zKw := (259, 4, 5, 600, zyx388a, zyh436, [(zyx388r, zyh437)])
noncomputable def zbzyx388c : Bool := zchkX [] zprog2 (zovW [zyx387d]) 100000 kX8_number [] zyx388p zyx388p
noncomputable def zbzyx388e : Bool := zrunw zprog2 (zovW [zyx387d]) 100000 (zcutW [] none ((zyx388r, zyh437), 5, 600) zyx388p) 5 600 kX8_number (zkin zyx388r zyh437) 0 (zargs 0 zyx388a, [], (zyh436.1, zyh436.2.1, 0), 0, 0)
/-! X8_thing -/
noncomputable def zyx389a : List zAV := [.inr (.inr (.inl 94)), .inl ((.ofNat 0, .ofNat 4), none)]
def zyx389r : Option zAV := some (.inl ((.negSucc 2147483647, .ofNat 2147483647), none))
noncomputable def zyx389p : List zPw := []
noncomputable def zyx389d : zKw := (292, 4, 36, 4380, zyx389a, zyh436, [(zyx389r, zyh437)])
noncomputable def zbzyx389e : Bool := zrunw zprog2 (zovW [zyx386d, zyx383d, zyx333d, zyx388d, zyx332d]) 100000 (zcutW [] none ((zyx389r, zyh437), 36, 4380) zyx389p) 36 4380 k2X8_thing (zkin zyx389r zyh437) 0 (zargs 0 zyx389a, [], (zyh436.1, zyh436.2.1, 0), 0, 0)
/-! X8_product ((('r', 102), 40, 32),) -/
noncomputable def zyx390a : List zAV := [.inr (.inr (.inl 94)), .inl ((.ofNat 0, .ofNat 4), none)]
def zyx390r : Option zAV := some (.inl ((.negSucc 2147483647, .ofNat 2147483647), none))
noncomputable def zyx390q : zPw := ((6, ([(0, .inr (.inr (.inl 94))), (1, .inl ((.ofNat 0, .ofNat 4), some (1, .ofNat 0))), (2, .inl ((.negSucc 2147483647, .ofNat 2147483647), some (2, .ofNat 0)))], [], zyh437, 0, 0), [], 0), (zyx390r, zyh437), 37, 4500)
noncomputable def zbzyx390c : Bool := zchkX [(94, 15)] zprog2 (zovW [zyx383d, zyx389d]) 100000 k2X8_product [zyx384q, zyx378q, zyx372q, zyx366q, zyx360q, zyx354q, zyx348q, zyx342q] [zyx390q] [zyx390q]
noncomputable def zyx390d : zKw := (265, 5, 37, 4500, zyx390a, zyh436, [(zyx390r, zyh437)])
noncomputable def zbzyx390e : Bool := zrunw zprog2 (zovW [zyx383d, zyx389d]) 100000 (zcutW [(94, 15)] none ((zyx390r, zyh437), 37, 4500) [zyx390q, zyx384q, zyx378q, zyx372q, zyx366q, zyx360q, zyx354q, zyx348q, zyx342q]) 37 4500 k2X8_product (zkin zyx390r zyh437) 0 (zargs 0 zyx390a, [], (zyh436.1, zyh436.2.1, 0), 0, 0)
/-! X8_sum ((('r', 102), 40, 32),) -/
noncomputable def zyx391a : List zAV := [.inr (.inr (.inl 94)), .inl ((.ofNat 1, .ofNat 4), none)]
def zyx391r : Option zAV := some (.inl ((.negSucc 2147483647, .ofNat 2147483647), none))
noncomputable def zyx391q : zPw := ((6, ([(0, .inr (.inr (.inl 94))), (1, .inl ((.ofNat 0, .ofNat 4), some (1, .ofNat 0))), (2, .inl ((.negSucc 2147483647, .ofNat 2147483647), some (2, .ofNat 0)))], [], zyh437, 0, 0), [], 0), (zyx391r, zyh437), 38, 4620)
noncomputable def zbzyx391c : Bool := zchkX [(94, 15)] zprog2 (zovW [zyx384d, zyx390d]) 100000 kX8_sum [zyx385q, zyx379q, zyx373q, zyx367q, zyx361q, zyx355q, zyx349q, zyx343q] [zyx391q] [zyx391q]
noncomputable def zyx391d : zKw := (284, 5, 38, 4620, zyx391a, zyh436, [(zyx391r, zyh437)])
noncomputable def zbzyx391e : Bool := zrunw zprog2 (zovW [zyx384d, zyx390d]) 100000 (zcutW [(94, 15)] none ((zyx391r, zyh437), 38, 4620) [zyx391q, zyx385q, zyx379q, zyx373q, zyx367q, zyx361q, zyx355q, zyx349q, zyx343q]) 38 4620 kX8_sum (zkin zyx391r zyh437) 0 (zargs 0 zyx391a, [], (zyh436.1, zyh436.2.1, 0), 0, 0)
/-! X8_heldBy -/
noncomputable def zyx392a : List zAV := [.inr (.inr (.inl 94)), .inl ((.ofNat 1, .ofNat 4), none)]
def zyx392r : Option zAV := some (.inl ((.negSucc 2147483647, .ofNat 2147483647), none))
noncomputable def zyx392p : List zPw := []
noncomputable def zyx392d : zKw := (229, 3, 39, 4740, zyx392a, zyh436, [(zyx392r, zyh437)])
noncomputable def zbzyx392e : Bool := zrunw zprog2 (zovW [zyx385d, zyx391d, zyx332d]) 100000 (zcutW [] none ((zyx392r, zyh437), 39, 4740) zyx392p) 39 4740 kX8_heldBy (zkin zyx392r zyh437) 0 (zargs 0 zyx392a, [], (zyh436.1, zyh436.2.1, 0), 0, 0)
/-! X8_oneOf -/
noncomputable def zyx393a : List zAV := [zyv320, zyv362, zyv363]
noncomputable def zyx393q : List (Option zAV × zH) := [(some (.inl ((.ofNat 0, .ofNat 0), none)), zyh470), (some (.inl ((.negSucc 175, .ofNat 79), none)), zyh435)]
noncomputable def zyx393d : zKw := (260, 3, 4, 480, zyx393a, zyh433, zyx393q)
noncomputable def zbzyx393e : Bool := zrunw zprog2 (zovW []) 100000 zcut0 4 480 kX8_oneOf (zkinL zyx393q) 0 (zargs 0 zyx393a, [], (zyh433.1, zyh433.2.1, 0), 0, 0)
/-! X8_number -/
noncomputable def zyx394a : List zAV := [.inr (.inr (.inl 94)), .inl ((.ofNat 3, .ofNat 3), none)]
def zyx394r : Option zAV := some (.inl ((.negSucc 2147483647, .ofNat 2147483647), none))
noncomputable def zyx394p : List zPw := [((11, ([(0, .inr (.inr (.inl 94))), (1, .inl ((.ofNat 3, .ofNat 3), some (1, .ofNat 0))), (2, .inl ((.negSucc 2147483647, .ofNat 2147483647), some (2, .ofNat 0))), (3, .inl ((.ofNat 1, .ofNat 3), some (3, .ofNat 0)))], [], zyh434, 0, 0), [(3, .negSucc 1)], .ofNat 7), (zyx394r, zyh434), 5, 600)]
noncomputable def zyx394d : zKw := (259, 4, 5, 600, zyx394a, zyh433, [(zyx394r, zyh434)])
noncomputable def zbzyx394c : Bool := zchkX [] zprog2 (zovW [zyx393d]) 100000 kX8_number [] zyx394p zyx394p
noncomputable def zbzyx394e : Bool := zrunw zprog2 (zovW [zyx393d]) 100000 (zcutW [] none ((zyx394r, zyh434), 5, 600) zyx394p) 5 600 kX8_number (zkin zyx394r zyh434) 0 (zargs 0 zyx394a, [], (zyh433.1, zyh433.2.1, 0), 0, 0)
/-! X8_thing -/
noncomputable def zyx395a : List zAV := [.inr (.inr (.inl 94)), .inl ((.ofNat 0, .ofNat 4), none)]
def zyx395r : Option zAV := some (.inl ((.negSucc 2147483647, .ofNat 2147483647), none))
noncomputable def zyx395p : List zPw := []
noncomputable def zyx395d : zKw := (292, 4, 40, 4860, zyx395a, zyh433, [(zyx395r, zyh434)])
noncomputable def zbzyx395e : Bool := zrunw zprog2 (zovW [zyx392d, zyx389d, zyx332d, zyx394d, zyx331d]) 100000 (zcutW [] none ((zyx395r, zyh434), 40, 4860) zyx395p) 40 4860 k2X8_thing (zkin zyx395r zyh434) 0 (zargs 0 zyx395a, [], (zyh433.1, zyh433.2.1, 0), 0, 0)
/-! X8_product ((('r', 102), 40, 31),) -/
noncomputable def zyx396a : List zAV := [.inr (.inr (.inl 94)), .inl ((.ofNat 0, .ofNat 4), none)]
def zyx396r : Option zAV := some (.inl ((.negSucc 2147483647, .ofNat 2147483647), none))
noncomputable def zyx396q : zPw := ((6, ([(0, .inr (.inr (.inl 94))), (1, .inl ((.ofNat 0, .ofNat 4), some (1, .ofNat 0))), (2, .inl ((.negSucc 2147483647, .ofNat 2147483647), some (2, .ofNat 0)))], [], zyh434, 0, 0), [], 0), (zyx396r, zyh434), 41, 4980)
noncomputable def zbzyx396c : Bool := zchkX [(94, 15)] zprog2 (zovW [zyx389d, zyx395d]) 100000 k2X8_product [zyx390q, zyx384q, zyx378q, zyx372q, zyx366q, zyx360q, zyx354q, zyx348q, zyx342q] [zyx396q] [zyx396q]
noncomputable def zyx396d : zKw := (265, 5, 41, 4980, zyx396a, zyh433, [(zyx396r, zyh434)])
noncomputable def zbzyx396e : Bool := zrunw zprog2 (zovW [zyx389d, zyx395d]) 100000 (zcutW [(94, 15)] none ((zyx396r, zyh434), 41, 4980) [zyx396q, zyx390q, zyx384q, zyx378q, zyx372q, zyx366q, zyx360q, zyx354q, zyx348q, zyx342q]) 41 4980 k2X8_product (zkin zyx396r zyh434) 0 (zargs 0 zyx396a, [], (zyh433.1, zyh433.2.1, 0), 0, 0)
noncomputable def zyg7 : List Bool := [zbzyx301e, zbzyx302e, zbzyx303e, zbzyx304e, zbzyx305e, zbzyx306e, zbzyx307e, zbzyx308e, zbzyx309e, zbzyx310e, zbzyx311e, zbzyx312e, zbzyx313e, zbzyx314e, zbzyx315e, zbzyx316e, zbzyx317e, zbzyx318e, zbzyx319e, zbzyx320e, zbzyx321e, zbzyx322e, zbzyx323e, zbzyx324e, zbzyx325e, zbzyx326e, zbzyx327e, zbzyx328e, zbzyx329e, zbzyx330e, zbzyx331e, zbzyx332e, zbzyx333e, zbzyx334e, zbzyx335e, zbzyx336e, zbzyx337e, zbzyx338e, zbzyx339e, zbzyx340e, zbzyx341e, zbzyx342c, zbzyx342e, zbzyx343c, zbzyx343e, zbzyx344e, zbzyx345e, zbzyx346c, zbzyx346e, zbzyx347e, zbzyx348c, zbzyx348e, zbzyx349c, zbzyx349e, zbzyx350e, zbzyx351e, zbzyx352c, zbzyx352e, zbzyx353e, zbzyx354c, zbzyx354e, zbzyx355c, zbzyx355e, zbzyx356e, zbzyx357e, zbzyx358c, zbzyx358e, zbzyx359e, zbzyx360c, zbzyx360e, zbzyx361c, zbzyx361e, zbzyx362e, zbzyx363e, zbzyx364c, zbzyx364e, zbzyx365e, zbzyx366c, zbzyx366e, zbzyx367c, zbzyx367e, zbzyx368e, zbzyx369e, zbzyx370c, zbzyx370e, zbzyx371e, zbzyx372c, zbzyx372e, zbzyx373c, zbzyx373e, zbzyx374e, zbzyx375e, zbzyx376c, zbzyx376e, zbzyx377e, zbzyx378c, zbzyx378e, zbzyx379c, zbzyx379e, zbzyx380e, zbzyx381e, zbzyx382c, zbzyx382e, zbzyx383e, zbzyx384c, zbzyx384e, zbzyx385c, zbzyx385e, zbzyx386e, zbzyx387e, zbzyx388c, zbzyx388e, zbzyx389e, zbzyx390c, zbzyx390e, zbzyx391c, zbzyx391e, zbzyx392e, zbzyx393e, zbzyx394c, zbzyx394e, zbzyx395e, zbzyx396c, zbzyx396e]
set_option maxRecDepth 100000 in
theorem zyg7_ok : zall (fun b => b) zyg7 = true := by decide +kernel
theorem zyx301e : zrunw zprog2 (zovW []) 100000 zcut0 3 420 kX8_passes (zkinL zyx301q) 0 (zargs 0 zyx301a, [], (zyh343.1, zyh343.2.1, 0), 0, 0) = true := zall_ok zyg7_ok (k := 0) (a := zbzyx301e) rfl
theorem zyx301 {l : Launch} {D : va_G} {tys : List (ClassId × FieldType)} {o : zO} {z : Nat} (E : zEnv tys) : zKnW l D vwCl tys o z (zXX o z) zTs zprog2 zyx301d :=
  zkn_ml E (fun g => fun _ h => absurd h List.not_mem_nil) (show zget zprog2 263 = some mX8_passes from rfl) rfl (by decide) (by decide) (by decide) (by decide) zyx301e
theorem zyx302e : zrunw zprog2 (zovW []) 100000 zcut0 3 420 kX8_passes (zkinL zyx302q) 0 (zargs 0 zyx302a, [], (zyh346.1, zyh346.2.1, 0), 0, 0) = true := zall_ok zyg7_ok (k := 1) (a := zbzyx302e) rfl
theorem zyx302 {l : Launch} {D : va_G} {tys : List (ClassId × FieldType)} {o : zO} {z : Nat} (E : zEnv tys) : zKnW l D vwCl tys o z (zXX o z) zTs zprog2 zyx302d :=
  zkn_ml E (fun g => fun _ h => absurd h List.not_mem_nil) (show zget zprog2 263 = some mX8_passes from rfl) rfl (by decide) (by decide) (by decide) (by decide) zyx302e
theorem zyx303e : zrunw zprog2 (zovW []) 100000 zcut0 3 420 kX8_passes (zkinL zyx303q) 0 (zargs 0 zyx303a, [], (zyh349.1, zyh349.2.1, 0), 0, 0) = true := zall_ok zyg7_ok (k := 2) (a := zbzyx303e) rfl
theorem zyx303 {l : Launch} {D : va_G} {tys : List (ClassId × FieldType)} {o : zO} {z : Nat} (E : zEnv tys) : zKnW l D vwCl tys o z (zXX o z) zTs zprog2 zyx303d :=
  zkn_ml E (fun g => fun _ h => absurd h List.not_mem_nil) (show zget zprog2 263 = some mX8_passes from rfl) rfl (by decide) (by decide) (by decide) (by decide) zyx303e
theorem zyx304e : zrunw zprog2 (zovW []) 100000 zcut0 3 420 kX8_passes (zkinL zyx304q) 0 (zargs 0 zyx304a, [], (zyh352.1, zyh352.2.1, 0), 0, 0) = true := zall_ok zyg7_ok (k := 3) (a := zbzyx304e) rfl
theorem zyx304 {l : Launch} {D : va_G} {tys : List (ClassId × FieldType)} {o : zO} {z : Nat} (E : zEnv tys) : zKnW l D vwCl tys o z (zXX o z) zTs zprog2 zyx304d :=
  zkn_ml E (fun g => fun _ h => absurd h List.not_mem_nil) (show zget zprog2 263 = some mX8_passes from rfl) rfl (by decide) (by decide) (by decide) (by decide) zyx304e
theorem zyx305e : zrunw zprog2 (zovW []) 100000 zcut0 3 420 kX8_passes (zkinL zyx305q) 0 (zargs 0 zyx305a, [], (zyh355.1, zyh355.2.1, 0), 0, 0) = true := zall_ok zyg7_ok (k := 4) (a := zbzyx305e) rfl
theorem zyx305 {l : Launch} {D : va_G} {tys : List (ClassId × FieldType)} {o : zO} {z : Nat} (E : zEnv tys) : zKnW l D vwCl tys o z (zXX o z) zTs zprog2 zyx305d :=
  zkn_ml E (fun g => fun _ h => absurd h List.not_mem_nil) (show zget zprog2 263 = some mX8_passes from rfl) rfl (by decide) (by decide) (by decide) (by decide) zyx305e
theorem zyx306e : zrunw zprog2 (zovW []) 100000 zcut0 3 420 kX8_passes (zkinL zyx306q) 0 (zargs 0 zyx306a, [], (zyh358.1, zyh358.2.1, 0), 0, 0) = true := zall_ok zyg7_ok (k := 5) (a := zbzyx306e) rfl
theorem zyx306 {l : Launch} {D : va_G} {tys : List (ClassId × FieldType)} {o : zO} {z : Nat} (E : zEnv tys) : zKnW l D vwCl tys o z (zXX o z) zTs zprog2 zyx306d :=
  zkn_ml E (fun g => fun _ h => absurd h List.not_mem_nil) (show zget zprog2 263 = some mX8_passes from rfl) rfl (by decide) (by decide) (by decide) (by decide) zyx306e
theorem zyx307e : zrunw zprog2 (zovW []) 100000 zcut0 3 420 kX8_passes (zkinL zyx307q) 0 (zargs 0 zyx307a, [], (zyh361.1, zyh361.2.1, 0), 0, 0) = true := zall_ok zyg7_ok (k := 6) (a := zbzyx307e) rfl
theorem zyx307 {l : Launch} {D : va_G} {tys : List (ClassId × FieldType)} {o : zO} {z : Nat} (E : zEnv tys) : zKnW l D vwCl tys o z (zXX o z) zTs zprog2 zyx307d :=
  zkn_ml E (fun g => fun _ h => absurd h List.not_mem_nil) (show zget zprog2 263 = some mX8_passes from rfl) rfl (by decide) (by decide) (by decide) (by decide) zyx307e
theorem zyx308e : zrunw zprog2 (zovW []) 100000 zcut0 3 420 kX8_passes (zkinL zyx308q) 0 (zargs 0 zyx308a, [], (zyh364.1, zyh364.2.1, 0), 0, 0) = true := zall_ok zyg7_ok (k := 7) (a := zbzyx308e) rfl
theorem zyx308 {l : Launch} {D : va_G} {tys : List (ClassId × FieldType)} {o : zO} {z : Nat} (E : zEnv tys) : zKnW l D vwCl tys o z (zXX o z) zTs zprog2 zyx308d :=
  zkn_ml E (fun g => fun _ h => absurd h List.not_mem_nil) (show zget zprog2 263 = some mX8_passes from rfl) rfl (by decide) (by decide) (by decide) (by decide) zyx308e
theorem zyx309e : zrunw zprog2 (zovW []) 100000 zcut0 3 420 kX8_passes (zkinL zyx309q) 0 (zargs 0 zyx309a, [], (zyh367.1, zyh367.2.1, 0), 0, 0) = true := zall_ok zyg7_ok (k := 8) (a := zbzyx309e) rfl
theorem zyx309 {l : Launch} {D : va_G} {tys : List (ClassId × FieldType)} {o : zO} {z : Nat} (E : zEnv tys) : zKnW l D vwCl tys o z (zXX o z) zTs zprog2 zyx309d :=
  zkn_ml E (fun g => fun _ h => absurd h List.not_mem_nil) (show zget zprog2 263 = some mX8_passes from rfl) rfl (by decide) (by decide) (by decide) (by decide) zyx309e
theorem zyx310e : zrunw zprog2 (zovW []) 100000 zcut0 3 420 kX8_passes (zkinL zyx310q) 0 (zargs 0 zyx310a, [], (zyh370.1, zyh370.2.1, 0), 0, 0) = true := zall_ok zyg7_ok (k := 9) (a := zbzyx310e) rfl
theorem zyx310 {l : Launch} {D : va_G} {tys : List (ClassId × FieldType)} {o : zO} {z : Nat} (E : zEnv tys) : zKnW l D vwCl tys o z (zXX o z) zTs zprog2 zyx310d :=
  zkn_ml E (fun g => fun _ h => absurd h List.not_mem_nil) (show zget zprog2 263 = some mX8_passes from rfl) rfl (by decide) (by decide) (by decide) (by decide) zyx310e
theorem zyx311e : zrunw zprog2 (zovW []) 100000 zcut0 3 420 kX8_passes (zkinL zyx311q) 0 (zargs 0 zyx311a, [], (zyh373.1, zyh373.2.1, 0), 0, 0) = true := zall_ok zyg7_ok (k := 10) (a := zbzyx311e) rfl
theorem zyx311 {l : Launch} {D : va_G} {tys : List (ClassId × FieldType)} {o : zO} {z : Nat} (E : zEnv tys) : zKnW l D vwCl tys o z (zXX o z) zTs zprog2 zyx311d :=
  zkn_ml E (fun g => fun _ h => absurd h List.not_mem_nil) (show zget zprog2 263 = some mX8_passes from rfl) rfl (by decide) (by decide) (by decide) (by decide) zyx311e
theorem zyx312e : zrunw zprog2 (zovW []) 100000 zcut0 3 420 kX8_passes (zkinL zyx312q) 0 (zargs 0 zyx312a, [], (zyh376.1, zyh376.2.1, 0), 0, 0) = true := zall_ok zyg7_ok (k := 11) (a := zbzyx312e) rfl
theorem zyx312 {l : Launch} {D : va_G} {tys : List (ClassId × FieldType)} {o : zO} {z : Nat} (E : zEnv tys) : zKnW l D vwCl tys o z (zXX o z) zTs zprog2 zyx312d :=
  zkn_ml E (fun g => fun _ h => absurd h List.not_mem_nil) (show zget zprog2 263 = some mX8_passes from rfl) rfl (by decide) (by decide) (by decide) (by decide) zyx312e
theorem zyx313e : zrunw zprog2 (zovW []) 100000 zcut0 3 420 kX8_passes (zkinL zyx313q) 0 (zargs 0 zyx313a, [], (zyh379.1, zyh379.2.1, 0), 0, 0) = true := zall_ok zyg7_ok (k := 12) (a := zbzyx313e) rfl
theorem zyx313 {l : Launch} {D : va_G} {tys : List (ClassId × FieldType)} {o : zO} {z : Nat} (E : zEnv tys) : zKnW l D vwCl tys o z (zXX o z) zTs zprog2 zyx313d :=
  zkn_ml E (fun g => fun _ h => absurd h List.not_mem_nil) (show zget zprog2 263 = some mX8_passes from rfl) rfl (by decide) (by decide) (by decide) (by decide) zyx313e
theorem zyx314e : zrunw zprog2 (zovW []) 100000 zcut0 3 420 kX8_passes (zkinL zyx314q) 0 (zargs 0 zyx314a, [], (zyh382.1, zyh382.2.1, 0), 0, 0) = true := zall_ok zyg7_ok (k := 13) (a := zbzyx314e) rfl
theorem zyx314 {l : Launch} {D : va_G} {tys : List (ClassId × FieldType)} {o : zO} {z : Nat} (E : zEnv tys) : zKnW l D vwCl tys o z (zXX o z) zTs zprog2 zyx314d :=
  zkn_ml E (fun g => fun _ h => absurd h List.not_mem_nil) (show zget zprog2 263 = some mX8_passes from rfl) rfl (by decide) (by decide) (by decide) (by decide) zyx314e
theorem zyx315e : zrunw zprog2 (zovW []) 100000 zcut0 3 420 kX8_passes (zkinL zyx315q) 0 (zargs 0 zyx315a, [], (zyh385.1, zyh385.2.1, 0), 0, 0) = true := zall_ok zyg7_ok (k := 14) (a := zbzyx315e) rfl
theorem zyx315 {l : Launch} {D : va_G} {tys : List (ClassId × FieldType)} {o : zO} {z : Nat} (E : zEnv tys) : zKnW l D vwCl tys o z (zXX o z) zTs zprog2 zyx315d :=
  zkn_ml E (fun g => fun _ h => absurd h List.not_mem_nil) (show zget zprog2 263 = some mX8_passes from rfl) rfl (by decide) (by decide) (by decide) (by decide) zyx315e
theorem zyx316e : zrunw zprog2 (zovW []) 100000 zcut0 3 420 kX8_passes (zkinL zyx316q) 0 (zargs 0 zyx316a, [], (zyh388.1, zyh388.2.1, 0), 0, 0) = true := zall_ok zyg7_ok (k := 15) (a := zbzyx316e) rfl
theorem zyx316 {l : Launch} {D : va_G} {tys : List (ClassId × FieldType)} {o : zO} {z : Nat} (E : zEnv tys) : zKnW l D vwCl tys o z (zXX o z) zTs zprog2 zyx316d :=
  zkn_ml E (fun g => fun _ h => absurd h List.not_mem_nil) (show zget zprog2 263 = some mX8_passes from rfl) rfl (by decide) (by decide) (by decide) (by decide) zyx316e
theorem zyx317e : zrunw zprog2 (zovW []) 100000 zcut0 3 420 kX8_passes (zkinL zyx317q) 0 (zargs 0 zyx317a, [], (zyh391.1, zyh391.2.1, 0), 0, 0) = true := zall_ok zyg7_ok (k := 16) (a := zbzyx317e) rfl
theorem zyx317 {l : Launch} {D : va_G} {tys : List (ClassId × FieldType)} {o : zO} {z : Nat} (E : zEnv tys) : zKnW l D vwCl tys o z (zXX o z) zTs zprog2 zyx317d :=
  zkn_ml E (fun g => fun _ h => absurd h List.not_mem_nil) (show zget zprog2 263 = some mX8_passes from rfl) rfl (by decide) (by decide) (by decide) (by decide) zyx317e
theorem zyx318e : zrunw zprog2 (zovW []) 100000 zcut0 3 420 kX8_passes (zkinL zyx318q) 0 (zargs 0 zyx318a, [], (zyh394.1, zyh394.2.1, 0), 0, 0) = true := zall_ok zyg7_ok (k := 17) (a := zbzyx318e) rfl
theorem zyx318 {l : Launch} {D : va_G} {tys : List (ClassId × FieldType)} {o : zO} {z : Nat} (E : zEnv tys) : zKnW l D vwCl tys o z (zXX o z) zTs zprog2 zyx318d :=
  zkn_ml E (fun g => fun _ h => absurd h List.not_mem_nil) (show zget zprog2 263 = some mX8_passes from rfl) rfl (by decide) (by decide) (by decide) (by decide) zyx318e
theorem zyx319e : zrunw zprog2 (zovW []) 100000 zcut0 3 420 kX8_passes (zkinL zyx319q) 0 (zargs 0 zyx319a, [], (zyh397.1, zyh397.2.1, 0), 0, 0) = true := zall_ok zyg7_ok (k := 18) (a := zbzyx319e) rfl
theorem zyx319 {l : Launch} {D : va_G} {tys : List (ClassId × FieldType)} {o : zO} {z : Nat} (E : zEnv tys) : zKnW l D vwCl tys o z (zXX o z) zTs zprog2 zyx319d :=
  zkn_ml E (fun g => fun _ h => absurd h List.not_mem_nil) (show zget zprog2 263 = some mX8_passes from rfl) rfl (by decide) (by decide) (by decide) (by decide) zyx319e
theorem zyx320e : zrunw zprog2 (zovW []) 100000 zcut0 3 420 kX8_passes (zkinL zyx320q) 0 (zargs 0 zyx320a, [], (zyh400.1, zyh400.2.1, 0), 0, 0) = true := zall_ok zyg7_ok (k := 19) (a := zbzyx320e) rfl
theorem zyx320 {l : Launch} {D : va_G} {tys : List (ClassId × FieldType)} {o : zO} {z : Nat} (E : zEnv tys) : zKnW l D vwCl tys o z (zXX o z) zTs zprog2 zyx320d :=
  zkn_ml E (fun g => fun _ h => absurd h List.not_mem_nil) (show zget zprog2 263 = some mX8_passes from rfl) rfl (by decide) (by decide) (by decide) (by decide) zyx320e
theorem zyx321e : zrunw zprog2 (zovW []) 100000 zcut0 3 420 kX8_passes (zkinL zyx321q) 0 (zargs 0 zyx321a, [], (zyh403.1, zyh403.2.1, 0), 0, 0) = true := zall_ok zyg7_ok (k := 20) (a := zbzyx321e) rfl
theorem zyx321 {l : Launch} {D : va_G} {tys : List (ClassId × FieldType)} {o : zO} {z : Nat} (E : zEnv tys) : zKnW l D vwCl tys o z (zXX o z) zTs zprog2 zyx321d :=
  zkn_ml E (fun g => fun _ h => absurd h List.not_mem_nil) (show zget zprog2 263 = some mX8_passes from rfl) rfl (by decide) (by decide) (by decide) (by decide) zyx321e
theorem zyx322e : zrunw zprog2 (zovW []) 100000 zcut0 3 420 kX8_passes (zkinL zyx322q) 0 (zargs 0 zyx322a, [], (zyh406.1, zyh406.2.1, 0), 0, 0) = true := zall_ok zyg7_ok (k := 21) (a := zbzyx322e) rfl
theorem zyx322 {l : Launch} {D : va_G} {tys : List (ClassId × FieldType)} {o : zO} {z : Nat} (E : zEnv tys) : zKnW l D vwCl tys o z (zXX o z) zTs zprog2 zyx322d :=
  zkn_ml E (fun g => fun _ h => absurd h List.not_mem_nil) (show zget zprog2 263 = some mX8_passes from rfl) rfl (by decide) (by decide) (by decide) (by decide) zyx322e
theorem zyx323e : zrunw zprog2 (zovW []) 100000 zcut0 3 420 kX8_passes (zkinL zyx323q) 0 (zargs 0 zyx323a, [], (zyh409.1, zyh409.2.1, 0), 0, 0) = true := zall_ok zyg7_ok (k := 22) (a := zbzyx323e) rfl
theorem zyx323 {l : Launch} {D : va_G} {tys : List (ClassId × FieldType)} {o : zO} {z : Nat} (E : zEnv tys) : zKnW l D vwCl tys o z (zXX o z) zTs zprog2 zyx323d :=
  zkn_ml E (fun g => fun _ h => absurd h List.not_mem_nil) (show zget zprog2 263 = some mX8_passes from rfl) rfl (by decide) (by decide) (by decide) (by decide) zyx323e
theorem zyx324e : zrunw zprog2 (zovW []) 100000 zcut0 3 420 kX8_passes (zkinL zyx324q) 0 (zargs 0 zyx324a, [], (zyh412.1, zyh412.2.1, 0), 0, 0) = true := zall_ok zyg7_ok (k := 23) (a := zbzyx324e) rfl
theorem zyx324 {l : Launch} {D : va_G} {tys : List (ClassId × FieldType)} {o : zO} {z : Nat} (E : zEnv tys) : zKnW l D vwCl tys o z (zXX o z) zTs zprog2 zyx324d :=
  zkn_ml E (fun g => fun _ h => absurd h List.not_mem_nil) (show zget zprog2 263 = some mX8_passes from rfl) rfl (by decide) (by decide) (by decide) (by decide) zyx324e
theorem zyx325e : zrunw zprog2 (zovW []) 100000 zcut0 3 420 kX8_passes (zkinL zyx325q) 0 (zargs 0 zyx325a, [], (zyh415.1, zyh415.2.1, 0), 0, 0) = true := zall_ok zyg7_ok (k := 24) (a := zbzyx325e) rfl
theorem zyx325 {l : Launch} {D : va_G} {tys : List (ClassId × FieldType)} {o : zO} {z : Nat} (E : zEnv tys) : zKnW l D vwCl tys o z (zXX o z) zTs zprog2 zyx325d :=
  zkn_ml E (fun g => fun _ h => absurd h List.not_mem_nil) (show zget zprog2 263 = some mX8_passes from rfl) rfl (by decide) (by decide) (by decide) (by decide) zyx325e
theorem zyx326e : zrunw zprog2 (zovW []) 100000 zcut0 3 420 kX8_passes (zkinL zyx326q) 0 (zargs 0 zyx326a, [], (zyh418.1, zyh418.2.1, 0), 0, 0) = true := zall_ok zyg7_ok (k := 25) (a := zbzyx326e) rfl
theorem zyx326 {l : Launch} {D : va_G} {tys : List (ClassId × FieldType)} {o : zO} {z : Nat} (E : zEnv tys) : zKnW l D vwCl tys o z (zXX o z) zTs zprog2 zyx326d :=
  zkn_ml E (fun g => fun _ h => absurd h List.not_mem_nil) (show zget zprog2 263 = some mX8_passes from rfl) rfl (by decide) (by decide) (by decide) (by decide) zyx326e
theorem zyx327e : zrunw zprog2 (zovW []) 100000 zcut0 3 420 kX8_passes (zkinL zyx327q) 0 (zargs 0 zyx327a, [], (zyh421.1, zyh421.2.1, 0), 0, 0) = true := zall_ok zyg7_ok (k := 26) (a := zbzyx327e) rfl
theorem zyx327 {l : Launch} {D : va_G} {tys : List (ClassId × FieldType)} {o : zO} {z : Nat} (E : zEnv tys) : zKnW l D vwCl tys o z (zXX o z) zTs zprog2 zyx327d :=
  zkn_ml E (fun g => fun _ h => absurd h List.not_mem_nil) (show zget zprog2 263 = some mX8_passes from rfl) rfl (by decide) (by decide) (by decide) (by decide) zyx327e
theorem zyx328e : zrunw zprog2 (zovW []) 100000 zcut0 3 420 kX8_passes (zkinL zyx328q) 0 (zargs 0 zyx328a, [], (zyh424.1, zyh424.2.1, 0), 0, 0) = true := zall_ok zyg7_ok (k := 27) (a := zbzyx328e) rfl
theorem zyx328 {l : Launch} {D : va_G} {tys : List (ClassId × FieldType)} {o : zO} {z : Nat} (E : zEnv tys) : zKnW l D vwCl tys o z (zXX o z) zTs zprog2 zyx328d :=
  zkn_ml E (fun g => fun _ h => absurd h List.not_mem_nil) (show zget zprog2 263 = some mX8_passes from rfl) rfl (by decide) (by decide) (by decide) (by decide) zyx328e
theorem zyx329e : zrunw zprog2 (zovW []) 100000 zcut0 3 420 kX8_passes (zkinL zyx329q) 0 (zargs 0 zyx329a, [], (zyh427.1, zyh427.2.1, 0), 0, 0) = true := zall_ok zyg7_ok (k := 28) (a := zbzyx329e) rfl
theorem zyx329 {l : Launch} {D : va_G} {tys : List (ClassId × FieldType)} {o : zO} {z : Nat} (E : zEnv tys) : zKnW l D vwCl tys o z (zXX o z) zTs zprog2 zyx329d :=
  zkn_ml E (fun g => fun _ h => absurd h List.not_mem_nil) (show zget zprog2 263 = some mX8_passes from rfl) rfl (by decide) (by decide) (by decide) (by decide) zyx329e
theorem zyx330e : zrunw zprog2 (zovW []) 100000 zcut0 3 420 kX8_passes (zkinL zyx330q) 0 (zargs 0 zyx330a, [], (zyh430.1, zyh430.2.1, 0), 0, 0) = true := zall_ok zyg7_ok (k := 29) (a := zbzyx330e) rfl
theorem zyx330 {l : Launch} {D : va_G} {tys : List (ClassId × FieldType)} {o : zO} {z : Nat} (E : zEnv tys) : zKnW l D vwCl tys o z (zXX o z) zTs zprog2 zyx330d :=
  zkn_ml E (fun g => fun _ h => absurd h List.not_mem_nil) (show zget zprog2 263 = some mX8_passes from rfl) rfl (by decide) (by decide) (by decide) (by decide) zyx330e
theorem zyx331e : zrunw zprog2 (zovW []) 100000 zcut0 3 420 kX8_passes (zkinL zyx331q) 0 (zargs 0 zyx331a, [], (zyh433.1, zyh433.2.1, 0), 0, 0) = true := zall_ok zyg7_ok (k := 30) (a := zbzyx331e) rfl
theorem zyx331 {l : Launch} {D : va_G} {tys : List (ClassId × FieldType)} {o : zO} {z : Nat} (E : zEnv tys) : zKnW l D vwCl tys o z (zXX o z) zTs zprog2 zyx331d :=
  zkn_ml E (fun g => fun _ h => absurd h List.not_mem_nil) (show zget zprog2 263 = some mX8_passes from rfl) rfl (by decide) (by decide) (by decide) (by decide) zyx331e
theorem zyx332e : zrunw zprog2 (zovW []) 100000 zcut0 3 420 kX8_passes (zkinL zyx332q) 0 (zargs 0 zyx332a, [], (zyh436.1, zyh436.2.1, 0), 0, 0) = true := zall_ok zyg7_ok (k := 31) (a := zbzyx332e) rfl
theorem zyx332 {l : Launch} {D : va_G} {tys : List (ClassId × FieldType)} {o : zO} {z : Nat} (E : zEnv tys) : zKnW l D vwCl tys o z (zXX o z) zTs zprog2 zyx332d :=
  zkn_ml E (fun g => fun _ h => absurd h List.not_mem_nil) (show zget zprog2 263 = some mX8_passes from rfl) rfl (by decide) (by decide) (by decide) (by decide) zyx332e
theorem zyx333e : zrunw zprog2 (zovW []) 100000 zcut0 3 420 kX8_passes (zkinL zyx333q) 0 (zargs 0 zyx333a, [], (zyh439.1, zyh439.2.1, 0), 0, 0) = true := zall_ok zyg7_ok (k := 32) (a := zbzyx333e) rfl
theorem zyx333 {l : Launch} {D : va_G} {tys : List (ClassId × FieldType)} {o : zO} {z : Nat} (E : zEnv tys) : zKnW l D vwCl tys o z (zXX o z) zTs zprog2 zyx333d :=
  zkn_ml E (fun g => fun _ h => absurd h List.not_mem_nil) (show zget zprog2 263 = some mX8_passes from rfl) rfl (by decide) (by decide) (by decide) (by decide) zyx333e
theorem zyx334e : zrunw zprog2 (zovW []) 100000 zcut0 3 420 kX8_passes (zkinL zyx334q) 0 (zargs 0 zyx334a, [], (zyh442.1, zyh442.2.1, 0), 0, 0) = true := zall_ok zyg7_ok (k := 33) (a := zbzyx334e) rfl
theorem zyx334 {l : Launch} {D : va_G} {tys : List (ClassId × FieldType)} {o : zO} {z : Nat} (E : zEnv tys) : zKnW l D vwCl tys o z (zXX o z) zTs zprog2 zyx334d :=
  zkn_ml E (fun g => fun _ h => absurd h List.not_mem_nil) (show zget zprog2 263 = some mX8_passes from rfl) rfl (by decide) (by decide) (by decide) (by decide) zyx334e
theorem zyx335e : zrunw zprog2 (zovW []) 100000 zcut0 3 420 kX8_passes (zkinL zyx335q) 0 (zargs 0 zyx335a, [], (zyh445.1, zyh445.2.1, 0), 0, 0) = true := zall_ok zyg7_ok (k := 34) (a := zbzyx335e) rfl
theorem zyx335 {l : Launch} {D : va_G} {tys : List (ClassId × FieldType)} {o : zO} {z : Nat} (E : zEnv tys) : zKnW l D vwCl tys o z (zXX o z) zTs zprog2 zyx335d :=
  zkn_ml E (fun g => fun _ h => absurd h List.not_mem_nil) (show zget zprog2 263 = some mX8_passes from rfl) rfl (by decide) (by decide) (by decide) (by decide) zyx335e
theorem zyx336e : zrunw zprog2 (zovW []) 100000 zcut0 3 420 kX8_passes (zkinL zyx336q) 0 (zargs 0 zyx336a, [], (zyh448.1, zyh448.2.1, 0), 0, 0) = true := zall_ok zyg7_ok (k := 35) (a := zbzyx336e) rfl
theorem zyx336 {l : Launch} {D : va_G} {tys : List (ClassId × FieldType)} {o : zO} {z : Nat} (E : zEnv tys) : zKnW l D vwCl tys o z (zXX o z) zTs zprog2 zyx336d :=
  zkn_ml E (fun g => fun _ h => absurd h List.not_mem_nil) (show zget zprog2 263 = some mX8_passes from rfl) rfl (by decide) (by decide) (by decide) (by decide) zyx336e
theorem zyx337e : zrunw zprog2 (zovW []) 100000 zcut0 3 420 kX8_passes (zkinL zyx337q) 0 (zargs 0 zyx337a, [], (zyh451.1, zyh451.2.1, 0), 0, 0) = true := zall_ok zyg7_ok (k := 36) (a := zbzyx337e) rfl
theorem zyx337 {l : Launch} {D : va_G} {tys : List (ClassId × FieldType)} {o : zO} {z : Nat} (E : zEnv tys) : zKnW l D vwCl tys o z (zXX o z) zTs zprog2 zyx337d :=
  zkn_ml E (fun g => fun _ h => absurd h List.not_mem_nil) (show zget zprog2 263 = some mX8_passes from rfl) rfl (by decide) (by decide) (by decide) (by decide) zyx337e
theorem zyx338e : zrunw zprog2 (zovW []) 100000 zcut0 3 420 kX8_passes (zkinL zyx338q) 0 (zargs 0 zyx338a, [], (zyh454.1, zyh454.2.1, 0), 0, 0) = true := zall_ok zyg7_ok (k := 37) (a := zbzyx338e) rfl
theorem zyx338 {l : Launch} {D : va_G} {tys : List (ClassId × FieldType)} {o : zO} {z : Nat} (E : zEnv tys) : zKnW l D vwCl tys o z (zXX o z) zTs zprog2 zyx338d :=
  zkn_ml E (fun g => fun _ h => absurd h List.not_mem_nil) (show zget zprog2 263 = some mX8_passes from rfl) rfl (by decide) (by decide) (by decide) (by decide) zyx338e
theorem zyx339e : zrunw zprog2 (zovW []) 100000 zcut0 3 420 kX8_passes (zkinL zyx339q) 0 (zargs 0 zyx339a, [], (zyh457.1, zyh457.2.1, 0), 0, 0) = true := zall_ok zyg7_ok (k := 38) (a := zbzyx339e) rfl
theorem zyx339 {l : Launch} {D : va_G} {tys : List (ClassId × FieldType)} {o : zO} {z : Nat} (E : zEnv tys) : zKnW l D vwCl tys o z (zXX o z) zTs zprog2 zyx339d :=
  zkn_ml E (fun g => fun _ h => absurd h List.not_mem_nil) (show zget zprog2 263 = some mX8_passes from rfl) rfl (by decide) (by decide) (by decide) (by decide) zyx339e
theorem zyx340e : zrunw zprog2 (zovW []) 100000 zcut0 3 420 kX8_passes (zkinL zyx340q) 0 (zargs 0 zyx340a, [], (zyh460.1, zyh460.2.1, 0), 0, 0) = true := zall_ok zyg7_ok (k := 39) (a := zbzyx340e) rfl
theorem zyx340 {l : Launch} {D : va_G} {tys : List (ClassId × FieldType)} {o : zO} {z : Nat} (E : zEnv tys) : zKnW l D vwCl tys o z (zXX o z) zTs zprog2 zyx340d :=
  zkn_ml E (fun g => fun _ h => absurd h List.not_mem_nil) (show zget zprog2 263 = some mX8_passes from rfl) rfl (by decide) (by decide) (by decide) (by decide) zyx340e
theorem zyx341e : zrunw zprog2 (zovW [zyx340d]) 100000 (zcutW [] none ((zyx341r, zyh461), 4, 540) zyx341p) 4 540 k2X8_thing (zkin zyx341r zyh461) 0 (zargs 0 zyx341a, [], (zyh460.1, zyh460.2.1, 0), 0, 0) = true := zall_ok zyg7_ok (k := 40) (a := zbzyx341e) rfl
theorem zyx341 {l : Launch} {D : va_G} {tys : List (ClassId × FieldType)} {o : zO} {z : Nat} (E : zEnv tys) : zKnW l D vwCl tys o z (zXX o z) zTs zprog2 zyx341d :=
  zkn_mk E (fun g => List.forall_mem_cons.mpr ⟨zyx340 (o := zwith o g) E, fun _ h => absurd h List.not_mem_nil⟩) (show zget zprog2 292 = some m2X8_thing from rfl) rfl (by decide) (by decide) (by decide) (by decide) (G := zyx341p) (fun _ h => absurd h List.not_mem_nil) zyx341e
theorem zyx342c : zchkX [(94, 15)] zprog2 (zovW [zyx341d]) 100000 k2X8_product [] [zyx342q] [zyx342q] = true := zall_ok zyg7_ok (k := 41) (a := zbzyx342c) rfl
theorem zyx342k {l : Launch} {D : va_G} {tys : List (ClassId × FieldType)} {o : zO} {z : Nat} (E : zEnv tys) : zPtOk l D vwCl tys o z (zXX o z) zTs m2X8_product zyx342q := zkn_pt E (fun g => List.forall_mem_cons.mpr ⟨zyx341 (o := zwith o g) E, fun _ h => absurd h List.not_mem_nil⟩) (show zget zprog2 265 = some m2X8_product from rfl) (fun _ h => absurd h List.not_mem_nil) zyx342c _ List.mem_cons_self
theorem zyx342e : zrunw zprog2 (zovW [zyx341d]) 100000 (zcutW [(94, 15)] none ((zyx342r, zyh461), 5, 660) [zyx342q]) 5 660 k2X8_product (zkin zyx342r zyh461) 0 (zargs 0 zyx342a, [], (zyh460.1, zyh460.2.1, 0), 0, 0) = true := zall_ok zyg7_ok (k := 42) (a := zbzyx342e) rfl
theorem zyx342 {l : Launch} {D : va_G} {tys : List (ClassId × FieldType)} {o : zO} {z : Nat} (E : zEnv tys) : zKnW l D vwCl tys o z (zXX o z) zTs zprog2 zyx342d :=
  zkn_mk E (fun g => List.forall_mem_cons.mpr ⟨zyx341 (o := zwith o g) E, fun _ h => absurd h List.not_mem_nil⟩) (show zget zprog2 265 = some m2X8_product from rfl) rfl (by decide) (by decide) (by decide) (by decide) (G := [zyx342q]) (List.forall_mem_cons.mpr ⟨zyx342k E, fun _ h => absurd h List.not_mem_nil⟩) zyx342e
theorem zyx343c : zchkX [(94, 15)] zprog2 (zovW [zyx342d]) 100000 kX8_sum [] [zyx343q] [zyx343q] = true := zall_ok zyg7_ok (k := 43) (a := zbzyx343c) rfl
theorem zyx343k {l : Launch} {D : va_G} {tys : List (ClassId × FieldType)} {o : zO} {z : Nat} (E : zEnv tys) : zPtOk l D vwCl tys o z (zXX o z) zTs mX8_sum zyx343q := zkn_pt E (fun g => List.forall_mem_cons.mpr ⟨zyx342 (o := zwith o g) E, fun _ h => absurd h List.not_mem_nil⟩) (show zget zprog2 284 = some mX8_sum from rfl) (fun _ h => absurd h List.not_mem_nil) zyx343c _ List.mem_cons_self
theorem zyx343e : zrunw zprog2 (zovW [zyx342d]) 100000 (zcutW [(94, 15)] none ((zyx343r, zyh461), 6, 780) [zyx343q]) 6 780 kX8_sum (zkin zyx343r zyh461) 0 (zargs 0 zyx343a, [], (zyh460.1, zyh460.2.1, 0), 0, 0) = true := zall_ok zyg7_ok (k := 44) (a := zbzyx343e) rfl
theorem zyx343 {l : Launch} {D : va_G} {tys : List (ClassId × FieldType)} {o : zO} {z : Nat} (E : zEnv tys) : zKnW l D vwCl tys o z (zXX o z) zTs zprog2 zyx343d :=
  zkn_mk E (fun g => List.forall_mem_cons.mpr ⟨zyx342 (o := zwith o g) E, fun _ h => absurd h List.not_mem_nil⟩) (show zget zprog2 284 = some mX8_sum from rfl) rfl (by decide) (by decide) (by decide) (by decide) (G := [zyx343q]) (List.forall_mem_cons.mpr ⟨zyx343k E, fun _ h => absurd h List.not_mem_nil⟩) zyx343e
theorem zyx344e : zrunw zprog2 (zovW [zyx343d, zyx340d]) 100000 (zcutW [] none ((zyx344r, zyh461), 7, 900) zyx344p) 7 900 kX8_heldBy (zkin zyx344r zyh461) 0 (zargs 0 zyx344a, [], (zyh460.1, zyh460.2.1, 0), 0, 0) = true := zall_ok zyg7_ok (k := 45) (a := zbzyx344e) rfl
theorem zyx344 {l : Launch} {D : va_G} {tys : List (ClassId × FieldType)} {o : zO} {z : Nat} (E : zEnv tys) : zKnW l D vwCl tys o z (zXX o z) zTs zprog2 zyx344d :=
  zkn_mk E (fun g => List.forall_mem_cons.mpr ⟨zyx343 (o := zwith o g) E, List.forall_mem_cons.mpr ⟨zyx340 (o := zwith o g) E, fun _ h => absurd h List.not_mem_nil⟩⟩) (show zget zprog2 229 = some mX8_heldBy from rfl) rfl (by decide) (by decide) (by decide) (by decide) (G := zyx344p) (fun _ h => absurd h List.not_mem_nil) zyx344e
theorem zyx345e : zrunw zprog2 (zovW []) 100000 zcut0 4 480 kX8_oneOf (zkinL zyx345q) 0 (zargs 0 zyx345a, [], (zyh457.1, zyh457.2.1, 0), 0, 0) = true := zall_ok zyg7_ok (k := 46) (a := zbzyx345e) rfl
theorem zyx345 {l : Launch} {D : va_G} {tys : List (ClassId × FieldType)} {o : zO} {z : Nat} (E : zEnv tys) : zKnW l D vwCl tys o z (zXX o z) zTs zprog2 zyx345d :=
  zkn_ml E (fun g => fun _ h => absurd h List.not_mem_nil) (show zget zprog2 260 = some mX8_oneOf from rfl) rfl (by decide) (by decide) (by decide) (by decide) zyx345e
theorem zyx346c : zchkX [] zprog2 (zovW [zyx345d]) 100000 kX8_number [] zyx346p zyx346p = true := zall_ok zyg7_ok (k := 47) (a := zbzyx346c) rfl
theorem zyx346e : zrunw zprog2 (zovW [zyx345d]) 100000 (zcutW [] none ((zyx346r, zyh458), 5, 600) zyx346p) 5 600 kX8_number (zkin zyx346r zyh458) 0 (zargs 0 zyx346a, [], (zyh457.1, zyh457.2.1, 0), 0, 0) = true := zall_ok zyg7_ok (k := 48) (a := zbzyx346e) rfl
theorem zyx346 {l : Launch} {D : va_G} {tys : List (ClassId × FieldType)} {o : zO} {z : Nat} (E : zEnv tys) : zKnW l D vwCl tys o z (zXX o z) zTs zprog2 zyx346d :=
  zkn_mk E (fun g => List.forall_mem_cons.mpr ⟨zyx345 (o := zwith o g) E, fun _ h => absurd h List.not_mem_nil⟩) (show zget zprog2 259 = some mX8_number from rfl) rfl (by decide) (by decide) (by decide) (by decide) (G := zyx346p) (zkn_pt E (fun g => List.forall_mem_cons.mpr ⟨zyx345 (o := zwith o g) E, fun _ h => absurd h List.not_mem_nil⟩) (show zget zprog2 259 = some mX8_number from rfl) (fun _ h => absurd h List.not_mem_nil) zyx346c) zyx346e
theorem zyx347e : zrunw zprog2 (zovW [zyx344d, zyx341d, zyx340d, zyx346d, zyx339d]) 100000 (zcutW [] none ((zyx347r, zyh458), 8, 1020) zyx347p) 8 1020 k2X8_thing (zkin zyx347r zyh458) 0 (zargs 0 zyx347a, [], (zyh457.1, zyh457.2.1, 0), 0, 0) = true := zall_ok zyg7_ok (k := 49) (a := zbzyx347e) rfl
theorem zyx347 {l : Launch} {D : va_G} {tys : List (ClassId × FieldType)} {o : zO} {z : Nat} (E : zEnv tys) : zKnW l D vwCl tys o z (zXX o z) zTs zprog2 zyx347d :=
  zkn_mk E (fun g => List.forall_mem_cons.mpr ⟨zyx344 (o := zwith o g) E, List.forall_mem_cons.mpr ⟨zyx341 (o := zwith o g) E, List.forall_mem_cons.mpr ⟨zyx340 (o := zwith o g) E, List.forall_mem_cons.mpr ⟨zyx346 (o := zwith o g) E, List.forall_mem_cons.mpr ⟨zyx339 (o := zwith o g) E, fun _ h => absurd h List.not_mem_nil⟩⟩⟩⟩⟩) (show zget zprog2 292 = some m2X8_thing from rfl) rfl (by decide) (by decide) (by decide) (by decide) (G := zyx347p) (fun _ h => absurd h List.not_mem_nil) zyx347e
theorem zyx348c : zchkX [(94, 15)] zprog2 (zovW [zyx341d, zyx347d]) 100000 k2X8_product [zyx342q] [zyx348q] [zyx348q] = true := zall_ok zyg7_ok (k := 50) (a := zbzyx348c) rfl
theorem zyx348k {l : Launch} {D : va_G} {tys : List (ClassId × FieldType)} {o : zO} {z : Nat} (E : zEnv tys) : zPtOk l D vwCl tys o z (zXX o z) zTs m2X8_product zyx348q := zkn_pt E (fun g => List.forall_mem_cons.mpr ⟨zyx341 (o := zwith o g) E, List.forall_mem_cons.mpr ⟨zyx347 (o := zwith o g) E, fun _ h => absurd h List.not_mem_nil⟩⟩) (show zget zprog2 265 = some m2X8_product from rfl) (List.forall_mem_cons.mpr ⟨zyx342k E, fun _ h => absurd h List.not_mem_nil⟩) zyx348c _ List.mem_cons_self
theorem zyx348e : zrunw zprog2 (zovW [zyx341d, zyx347d]) 100000 (zcutW [(94, 15)] none ((zyx348r, zyh458), 9, 1140) [zyx348q, zyx342q]) 9 1140 k2X8_product (zkin zyx348r zyh458) 0 (zargs 0 zyx348a, [], (zyh457.1, zyh457.2.1, 0), 0, 0) = true := zall_ok zyg7_ok (k := 51) (a := zbzyx348e) rfl
theorem zyx348 {l : Launch} {D : va_G} {tys : List (ClassId × FieldType)} {o : zO} {z : Nat} (E : zEnv tys) : zKnW l D vwCl tys o z (zXX o z) zTs zprog2 zyx348d :=
  zkn_mk E (fun g => List.forall_mem_cons.mpr ⟨zyx341 (o := zwith o g) E, List.forall_mem_cons.mpr ⟨zyx347 (o := zwith o g) E, fun _ h => absurd h List.not_mem_nil⟩⟩) (show zget zprog2 265 = some m2X8_product from rfl) rfl (by decide) (by decide) (by decide) (by decide) (G := [zyx348q, zyx342q]) (List.forall_mem_cons.mpr ⟨zyx348k E, List.forall_mem_cons.mpr ⟨zyx342k E, fun _ h => absurd h List.not_mem_nil⟩⟩) zyx348e
theorem zyx349c : zchkX [(94, 15)] zprog2 (zovW [zyx342d, zyx348d]) 100000 kX8_sum [zyx343q] [zyx349q] [zyx349q] = true := zall_ok zyg7_ok (k := 52) (a := zbzyx349c) rfl
theorem zyx349k {l : Launch} {D : va_G} {tys : List (ClassId × FieldType)} {o : zO} {z : Nat} (E : zEnv tys) : zPtOk l D vwCl tys o z (zXX o z) zTs mX8_sum zyx349q := zkn_pt E (fun g => List.forall_mem_cons.mpr ⟨zyx342 (o := zwith o g) E, List.forall_mem_cons.mpr ⟨zyx348 (o := zwith o g) E, fun _ h => absurd h List.not_mem_nil⟩⟩) (show zget zprog2 284 = some mX8_sum from rfl) (List.forall_mem_cons.mpr ⟨zyx343k E, fun _ h => absurd h List.not_mem_nil⟩) zyx349c _ List.mem_cons_self
theorem zyx349e : zrunw zprog2 (zovW [zyx342d, zyx348d]) 100000 (zcutW [(94, 15)] none ((zyx349r, zyh458), 10, 1260) [zyx349q, zyx343q]) 10 1260 kX8_sum (zkin zyx349r zyh458) 0 (zargs 0 zyx349a, [], (zyh457.1, zyh457.2.1, 0), 0, 0) = true := zall_ok zyg7_ok (k := 53) (a := zbzyx349e) rfl
theorem zyx349 {l : Launch} {D : va_G} {tys : List (ClassId × FieldType)} {o : zO} {z : Nat} (E : zEnv tys) : zKnW l D vwCl tys o z (zXX o z) zTs zprog2 zyx349d :=
  zkn_mk E (fun g => List.forall_mem_cons.mpr ⟨zyx342 (o := zwith o g) E, List.forall_mem_cons.mpr ⟨zyx348 (o := zwith o g) E, fun _ h => absurd h List.not_mem_nil⟩⟩) (show zget zprog2 284 = some mX8_sum from rfl) rfl (by decide) (by decide) (by decide) (by decide) (G := [zyx349q, zyx343q]) (List.forall_mem_cons.mpr ⟨zyx349k E, List.forall_mem_cons.mpr ⟨zyx343k E, fun _ h => absurd h List.not_mem_nil⟩⟩) zyx349e
theorem zyx350e : zrunw zprog2 (zovW [zyx343d, zyx349d, zyx339d]) 100000 (zcutW [] none ((zyx350r, zyh458), 11, 1380) zyx350p) 11 1380 kX8_heldBy (zkin zyx350r zyh458) 0 (zargs 0 zyx350a, [], (zyh457.1, zyh457.2.1, 0), 0, 0) = true := zall_ok zyg7_ok (k := 54) (a := zbzyx350e) rfl
theorem zyx350 {l : Launch} {D : va_G} {tys : List (ClassId × FieldType)} {o : zO} {z : Nat} (E : zEnv tys) : zKnW l D vwCl tys o z (zXX o z) zTs zprog2 zyx350d :=
  zkn_mk E (fun g => List.forall_mem_cons.mpr ⟨zyx343 (o := zwith o g) E, List.forall_mem_cons.mpr ⟨zyx349 (o := zwith o g) E, List.forall_mem_cons.mpr ⟨zyx339 (o := zwith o g) E, fun _ h => absurd h List.not_mem_nil⟩⟩⟩) (show zget zprog2 229 = some mX8_heldBy from rfl) rfl (by decide) (by decide) (by decide) (by decide) (G := zyx350p) (fun _ h => absurd h List.not_mem_nil) zyx350e
theorem zyx351e : zrunw zprog2 (zovW []) 100000 zcut0 4 480 kX8_oneOf (zkinL zyx351q) 0 (zargs 0 zyx351a, [], (zyh454.1, zyh454.2.1, 0), 0, 0) = true := zall_ok zyg7_ok (k := 55) (a := zbzyx351e) rfl
theorem zyx351 {l : Launch} {D : va_G} {tys : List (ClassId × FieldType)} {o : zO} {z : Nat} (E : zEnv tys) : zKnW l D vwCl tys o z (zXX o z) zTs zprog2 zyx351d :=
  zkn_ml E (fun g => fun _ h => absurd h List.not_mem_nil) (show zget zprog2 260 = some mX8_oneOf from rfl) rfl (by decide) (by decide) (by decide) (by decide) zyx351e
theorem zyx352c : zchkX [] zprog2 (zovW [zyx351d]) 100000 kX8_number [] zyx352p zyx352p = true := zall_ok zyg7_ok (k := 56) (a := zbzyx352c) rfl
theorem zyx352e : zrunw zprog2 (zovW [zyx351d]) 100000 (zcutW [] none ((zyx352r, zyh455), 5, 600) zyx352p) 5 600 kX8_number (zkin zyx352r zyh455) 0 (zargs 0 zyx352a, [], (zyh454.1, zyh454.2.1, 0), 0, 0) = true := zall_ok zyg7_ok (k := 57) (a := zbzyx352e) rfl
theorem zyx352 {l : Launch} {D : va_G} {tys : List (ClassId × FieldType)} {o : zO} {z : Nat} (E : zEnv tys) : zKnW l D vwCl tys o z (zXX o z) zTs zprog2 zyx352d :=
  zkn_mk E (fun g => List.forall_mem_cons.mpr ⟨zyx351 (o := zwith o g) E, fun _ h => absurd h List.not_mem_nil⟩) (show zget zprog2 259 = some mX8_number from rfl) rfl (by decide) (by decide) (by decide) (by decide) (G := zyx352p) (zkn_pt E (fun g => List.forall_mem_cons.mpr ⟨zyx351 (o := zwith o g) E, fun _ h => absurd h List.not_mem_nil⟩) (show zget zprog2 259 = some mX8_number from rfl) (fun _ h => absurd h List.not_mem_nil) zyx352c) zyx352e
theorem zyx353e : zrunw zprog2 (zovW [zyx350d, zyx347d, zyx339d, zyx352d, zyx338d]) 100000 (zcutW [] none ((zyx353r, zyh455), 12, 1500) zyx353p) 12 1500 k2X8_thing (zkin zyx353r zyh455) 0 (zargs 0 zyx353a, [], (zyh454.1, zyh454.2.1, 0), 0, 0) = true := zall_ok zyg7_ok (k := 58) (a := zbzyx353e) rfl
theorem zyx353 {l : Launch} {D : va_G} {tys : List (ClassId × FieldType)} {o : zO} {z : Nat} (E : zEnv tys) : zKnW l D vwCl tys o z (zXX o z) zTs zprog2 zyx353d :=
  zkn_mk E (fun g => List.forall_mem_cons.mpr ⟨zyx350 (o := zwith o g) E, List.forall_mem_cons.mpr ⟨zyx347 (o := zwith o g) E, List.forall_mem_cons.mpr ⟨zyx339 (o := zwith o g) E, List.forall_mem_cons.mpr ⟨zyx352 (o := zwith o g) E, List.forall_mem_cons.mpr ⟨zyx338 (o := zwith o g) E, fun _ h => absurd h List.not_mem_nil⟩⟩⟩⟩⟩) (show zget zprog2 292 = some m2X8_thing from rfl) rfl (by decide) (by decide) (by decide) (by decide) (G := zyx353p) (fun _ h => absurd h List.not_mem_nil) zyx353e
theorem zyx354c : zchkX [(94, 15)] zprog2 (zovW [zyx347d, zyx353d]) 100000 k2X8_product [zyx348q, zyx342q] [zyx354q] [zyx354q] = true := zall_ok zyg7_ok (k := 59) (a := zbzyx354c) rfl
theorem zyx354k {l : Launch} {D : va_G} {tys : List (ClassId × FieldType)} {o : zO} {z : Nat} (E : zEnv tys) : zPtOk l D vwCl tys o z (zXX o z) zTs m2X8_product zyx354q := zkn_pt E (fun g => List.forall_mem_cons.mpr ⟨zyx347 (o := zwith o g) E, List.forall_mem_cons.mpr ⟨zyx353 (o := zwith o g) E, fun _ h => absurd h List.not_mem_nil⟩⟩) (show zget zprog2 265 = some m2X8_product from rfl) (List.forall_mem_cons.mpr ⟨zyx348k E, List.forall_mem_cons.mpr ⟨zyx342k E, fun _ h => absurd h List.not_mem_nil⟩⟩) zyx354c _ List.mem_cons_self
theorem zyx354e : zrunw zprog2 (zovW [zyx347d, zyx353d]) 100000 (zcutW [(94, 15)] none ((zyx354r, zyh455), 13, 1620) [zyx354q, zyx348q, zyx342q]) 13 1620 k2X8_product (zkin zyx354r zyh455) 0 (zargs 0 zyx354a, [], (zyh454.1, zyh454.2.1, 0), 0, 0) = true := zall_ok zyg7_ok (k := 60) (a := zbzyx354e) rfl
theorem zyx354 {l : Launch} {D : va_G} {tys : List (ClassId × FieldType)} {o : zO} {z : Nat} (E : zEnv tys) : zKnW l D vwCl tys o z (zXX o z) zTs zprog2 zyx354d :=
  zkn_mk E (fun g => List.forall_mem_cons.mpr ⟨zyx347 (o := zwith o g) E, List.forall_mem_cons.mpr ⟨zyx353 (o := zwith o g) E, fun _ h => absurd h List.not_mem_nil⟩⟩) (show zget zprog2 265 = some m2X8_product from rfl) rfl (by decide) (by decide) (by decide) (by decide) (G := [zyx354q, zyx348q, zyx342q]) (List.forall_mem_cons.mpr ⟨zyx354k E, List.forall_mem_cons.mpr ⟨zyx348k E, List.forall_mem_cons.mpr ⟨zyx342k E, fun _ h => absurd h List.not_mem_nil⟩⟩⟩) zyx354e
theorem zyx355c : zchkX [(94, 15)] zprog2 (zovW [zyx348d, zyx354d]) 100000 kX8_sum [zyx349q, zyx343q] [zyx355q] [zyx355q] = true := zall_ok zyg7_ok (k := 61) (a := zbzyx355c) rfl
theorem zyx355k {l : Launch} {D : va_G} {tys : List (ClassId × FieldType)} {o : zO} {z : Nat} (E : zEnv tys) : zPtOk l D vwCl tys o z (zXX o z) zTs mX8_sum zyx355q := zkn_pt E (fun g => List.forall_mem_cons.mpr ⟨zyx348 (o := zwith o g) E, List.forall_mem_cons.mpr ⟨zyx354 (o := zwith o g) E, fun _ h => absurd h List.not_mem_nil⟩⟩) (show zget zprog2 284 = some mX8_sum from rfl) (List.forall_mem_cons.mpr ⟨zyx349k E, List.forall_mem_cons.mpr ⟨zyx343k E, fun _ h => absurd h List.not_mem_nil⟩⟩) zyx355c _ List.mem_cons_self
theorem zyx355e : zrunw zprog2 (zovW [zyx348d, zyx354d]) 100000 (zcutW [(94, 15)] none ((zyx355r, zyh455), 14, 1740) [zyx355q, zyx349q, zyx343q]) 14 1740 kX8_sum (zkin zyx355r zyh455) 0 (zargs 0 zyx355a, [], (zyh454.1, zyh454.2.1, 0), 0, 0) = true := zall_ok zyg7_ok (k := 62) (a := zbzyx355e) rfl
theorem zyx355 {l : Launch} {D : va_G} {tys : List (ClassId × FieldType)} {o : zO} {z : Nat} (E : zEnv tys) : zKnW l D vwCl tys o z (zXX o z) zTs zprog2 zyx355d :=
  zkn_mk E (fun g => List.forall_mem_cons.mpr ⟨zyx348 (o := zwith o g) E, List.forall_mem_cons.mpr ⟨zyx354 (o := zwith o g) E, fun _ h => absurd h List.not_mem_nil⟩⟩) (show zget zprog2 284 = some mX8_sum from rfl) rfl (by decide) (by decide) (by decide) (by decide) (G := [zyx355q, zyx349q, zyx343q]) (List.forall_mem_cons.mpr ⟨zyx355k E, List.forall_mem_cons.mpr ⟨zyx349k E, List.forall_mem_cons.mpr ⟨zyx343k E, fun _ h => absurd h List.not_mem_nil⟩⟩⟩) zyx355e
theorem zyx356e : zrunw zprog2 (zovW [zyx349d, zyx355d, zyx338d]) 100000 (zcutW [] none ((zyx356r, zyh455), 15, 1860) zyx356p) 15 1860 kX8_heldBy (zkin zyx356r zyh455) 0 (zargs 0 zyx356a, [], (zyh454.1, zyh454.2.1, 0), 0, 0) = true := zall_ok zyg7_ok (k := 63) (a := zbzyx356e) rfl
theorem zyx356 {l : Launch} {D : va_G} {tys : List (ClassId × FieldType)} {o : zO} {z : Nat} (E : zEnv tys) : zKnW l D vwCl tys o z (zXX o z) zTs zprog2 zyx356d :=
  zkn_mk E (fun g => List.forall_mem_cons.mpr ⟨zyx349 (o := zwith o g) E, List.forall_mem_cons.mpr ⟨zyx355 (o := zwith o g) E, List.forall_mem_cons.mpr ⟨zyx338 (o := zwith o g) E, fun _ h => absurd h List.not_mem_nil⟩⟩⟩) (show zget zprog2 229 = some mX8_heldBy from rfl) rfl (by decide) (by decide) (by decide) (by decide) (G := zyx356p) (fun _ h => absurd h List.not_mem_nil) zyx356e
theorem zyx357e : zrunw zprog2 (zovW []) 100000 zcut0 4 480 kX8_oneOf (zkinL zyx357q) 0 (zargs 0 zyx357a, [], (zyh451.1, zyh451.2.1, 0), 0, 0) = true := zall_ok zyg7_ok (k := 64) (a := zbzyx357e) rfl
theorem zyx357 {l : Launch} {D : va_G} {tys : List (ClassId × FieldType)} {o : zO} {z : Nat} (E : zEnv tys) : zKnW l D vwCl tys o z (zXX o z) zTs zprog2 zyx357d :=
  zkn_ml E (fun g => fun _ h => absurd h List.not_mem_nil) (show zget zprog2 260 = some mX8_oneOf from rfl) rfl (by decide) (by decide) (by decide) (by decide) zyx357e
theorem zyx358c : zchkX [] zprog2 (zovW [zyx357d]) 100000 kX8_number [] zyx358p zyx358p = true := zall_ok zyg7_ok (k := 65) (a := zbzyx358c) rfl
theorem zyx358e : zrunw zprog2 (zovW [zyx357d]) 100000 (zcutW [] none ((zyx358r, zyh452), 5, 600) zyx358p) 5 600 kX8_number (zkin zyx358r zyh452) 0 (zargs 0 zyx358a, [], (zyh451.1, zyh451.2.1, 0), 0, 0) = true := zall_ok zyg7_ok (k := 66) (a := zbzyx358e) rfl
theorem zyx358 {l : Launch} {D : va_G} {tys : List (ClassId × FieldType)} {o : zO} {z : Nat} (E : zEnv tys) : zKnW l D vwCl tys o z (zXX o z) zTs zprog2 zyx358d :=
  zkn_mk E (fun g => List.forall_mem_cons.mpr ⟨zyx357 (o := zwith o g) E, fun _ h => absurd h List.not_mem_nil⟩) (show zget zprog2 259 = some mX8_number from rfl) rfl (by decide) (by decide) (by decide) (by decide) (G := zyx358p) (zkn_pt E (fun g => List.forall_mem_cons.mpr ⟨zyx357 (o := zwith o g) E, fun _ h => absurd h List.not_mem_nil⟩) (show zget zprog2 259 = some mX8_number from rfl) (fun _ h => absurd h List.not_mem_nil) zyx358c) zyx358e
theorem zyx359e : zrunw zprog2 (zovW [zyx356d, zyx353d, zyx338d, zyx358d, zyx337d]) 100000 (zcutW [] none ((zyx359r, zyh452), 16, 1980) zyx359p) 16 1980 k2X8_thing (zkin zyx359r zyh452) 0 (zargs 0 zyx359a, [], (zyh451.1, zyh451.2.1, 0), 0, 0) = true := zall_ok zyg7_ok (k := 67) (a := zbzyx359e) rfl
theorem zyx359 {l : Launch} {D : va_G} {tys : List (ClassId × FieldType)} {o : zO} {z : Nat} (E : zEnv tys) : zKnW l D vwCl tys o z (zXX o z) zTs zprog2 zyx359d :=
  zkn_mk E (fun g => List.forall_mem_cons.mpr ⟨zyx356 (o := zwith o g) E, List.forall_mem_cons.mpr ⟨zyx353 (o := zwith o g) E, List.forall_mem_cons.mpr ⟨zyx338 (o := zwith o g) E, List.forall_mem_cons.mpr ⟨zyx358 (o := zwith o g) E, List.forall_mem_cons.mpr ⟨zyx337 (o := zwith o g) E, fun _ h => absurd h List.not_mem_nil⟩⟩⟩⟩⟩) (show zget zprog2 292 = some m2X8_thing from rfl) rfl (by decide) (by decide) (by decide) (by decide) (G := zyx359p) (fun _ h => absurd h List.not_mem_nil) zyx359e
theorem zyx360c : zchkX [(94, 15)] zprog2 (zovW [zyx353d, zyx359d]) 100000 k2X8_product [zyx354q, zyx348q, zyx342q] [zyx360q] [zyx360q] = true := zall_ok zyg7_ok (k := 68) (a := zbzyx360c) rfl
theorem zyx360k {l : Launch} {D : va_G} {tys : List (ClassId × FieldType)} {o : zO} {z : Nat} (E : zEnv tys) : zPtOk l D vwCl tys o z (zXX o z) zTs m2X8_product zyx360q := zkn_pt E (fun g => List.forall_mem_cons.mpr ⟨zyx353 (o := zwith o g) E, List.forall_mem_cons.mpr ⟨zyx359 (o := zwith o g) E, fun _ h => absurd h List.not_mem_nil⟩⟩) (show zget zprog2 265 = some m2X8_product from rfl) (List.forall_mem_cons.mpr ⟨zyx354k E, List.forall_mem_cons.mpr ⟨zyx348k E, List.forall_mem_cons.mpr ⟨zyx342k E, fun _ h => absurd h List.not_mem_nil⟩⟩⟩) zyx360c _ List.mem_cons_self
theorem zyx360e : zrunw zprog2 (zovW [zyx353d, zyx359d]) 100000 (zcutW [(94, 15)] none ((zyx360r, zyh452), 17, 2100) [zyx360q, zyx354q, zyx348q, zyx342q]) 17 2100 k2X8_product (zkin zyx360r zyh452) 0 (zargs 0 zyx360a, [], (zyh451.1, zyh451.2.1, 0), 0, 0) = true := zall_ok zyg7_ok (k := 69) (a := zbzyx360e) rfl
theorem zyx360 {l : Launch} {D : va_G} {tys : List (ClassId × FieldType)} {o : zO} {z : Nat} (E : zEnv tys) : zKnW l D vwCl tys o z (zXX o z) zTs zprog2 zyx360d :=
  zkn_mk E (fun g => List.forall_mem_cons.mpr ⟨zyx353 (o := zwith o g) E, List.forall_mem_cons.mpr ⟨zyx359 (o := zwith o g) E, fun _ h => absurd h List.not_mem_nil⟩⟩) (show zget zprog2 265 = some m2X8_product from rfl) rfl (by decide) (by decide) (by decide) (by decide) (G := [zyx360q, zyx354q, zyx348q, zyx342q]) (List.forall_mem_cons.mpr ⟨zyx360k E, List.forall_mem_cons.mpr ⟨zyx354k E, List.forall_mem_cons.mpr ⟨zyx348k E, List.forall_mem_cons.mpr ⟨zyx342k E, fun _ h => absurd h List.not_mem_nil⟩⟩⟩⟩) zyx360e
theorem zyx361c : zchkX [(94, 15)] zprog2 (zovW [zyx354d, zyx360d]) 100000 kX8_sum [zyx355q, zyx349q, zyx343q] [zyx361q] [zyx361q] = true := zall_ok zyg7_ok (k := 70) (a := zbzyx361c) rfl
theorem zyx361k {l : Launch} {D : va_G} {tys : List (ClassId × FieldType)} {o : zO} {z : Nat} (E : zEnv tys) : zPtOk l D vwCl tys o z (zXX o z) zTs mX8_sum zyx361q := zkn_pt E (fun g => List.forall_mem_cons.mpr ⟨zyx354 (o := zwith o g) E, List.forall_mem_cons.mpr ⟨zyx360 (o := zwith o g) E, fun _ h => absurd h List.not_mem_nil⟩⟩) (show zget zprog2 284 = some mX8_sum from rfl) (List.forall_mem_cons.mpr ⟨zyx355k E, List.forall_mem_cons.mpr ⟨zyx349k E, List.forall_mem_cons.mpr ⟨zyx343k E, fun _ h => absurd h List.not_mem_nil⟩⟩⟩) zyx361c _ List.mem_cons_self
theorem zyx361e : zrunw zprog2 (zovW [zyx354d, zyx360d]) 100000 (zcutW [(94, 15)] none ((zyx361r, zyh452), 18, 2220) [zyx361q, zyx355q, zyx349q, zyx343q]) 18 2220 kX8_sum (zkin zyx361r zyh452) 0 (zargs 0 zyx361a, [], (zyh451.1, zyh451.2.1, 0), 0, 0) = true := zall_ok zyg7_ok (k := 71) (a := zbzyx361e) rfl
theorem zyx361 {l : Launch} {D : va_G} {tys : List (ClassId × FieldType)} {o : zO} {z : Nat} (E : zEnv tys) : zKnW l D vwCl tys o z (zXX o z) zTs zprog2 zyx361d :=
  zkn_mk E (fun g => List.forall_mem_cons.mpr ⟨zyx354 (o := zwith o g) E, List.forall_mem_cons.mpr ⟨zyx360 (o := zwith o g) E, fun _ h => absurd h List.not_mem_nil⟩⟩) (show zget zprog2 284 = some mX8_sum from rfl) rfl (by decide) (by decide) (by decide) (by decide) (G := [zyx361q, zyx355q, zyx349q, zyx343q]) (List.forall_mem_cons.mpr ⟨zyx361k E, List.forall_mem_cons.mpr ⟨zyx355k E, List.forall_mem_cons.mpr ⟨zyx349k E, List.forall_mem_cons.mpr ⟨zyx343k E, fun _ h => absurd h List.not_mem_nil⟩⟩⟩⟩) zyx361e
theorem zyx362e : zrunw zprog2 (zovW [zyx355d, zyx361d, zyx337d]) 100000 (zcutW [] none ((zyx362r, zyh452), 19, 2340) zyx362p) 19 2340 kX8_heldBy (zkin zyx362r zyh452) 0 (zargs 0 zyx362a, [], (zyh451.1, zyh451.2.1, 0), 0, 0) = true := zall_ok zyg7_ok (k := 72) (a := zbzyx362e) rfl
theorem zyx362 {l : Launch} {D : va_G} {tys : List (ClassId × FieldType)} {o : zO} {z : Nat} (E : zEnv tys) : zKnW l D vwCl tys o z (zXX o z) zTs zprog2 zyx362d :=
  zkn_mk E (fun g => List.forall_mem_cons.mpr ⟨zyx355 (o := zwith o g) E, List.forall_mem_cons.mpr ⟨zyx361 (o := zwith o g) E, List.forall_mem_cons.mpr ⟨zyx337 (o := zwith o g) E, fun _ h => absurd h List.not_mem_nil⟩⟩⟩) (show zget zprog2 229 = some mX8_heldBy from rfl) rfl (by decide) (by decide) (by decide) (by decide) (G := zyx362p) (fun _ h => absurd h List.not_mem_nil) zyx362e
theorem zyx363e : zrunw zprog2 (zovW []) 100000 zcut0 4 480 kX8_oneOf (zkinL zyx363q) 0 (zargs 0 zyx363a, [], (zyh448.1, zyh448.2.1, 0), 0, 0) = true := zall_ok zyg7_ok (k := 73) (a := zbzyx363e) rfl
theorem zyx363 {l : Launch} {D : va_G} {tys : List (ClassId × FieldType)} {o : zO} {z : Nat} (E : zEnv tys) : zKnW l D vwCl tys o z (zXX o z) zTs zprog2 zyx363d :=
  zkn_ml E (fun g => fun _ h => absurd h List.not_mem_nil) (show zget zprog2 260 = some mX8_oneOf from rfl) rfl (by decide) (by decide) (by decide) (by decide) zyx363e
theorem zyx364c : zchkX [] zprog2 (zovW [zyx363d]) 100000 kX8_number [] zyx364p zyx364p = true := zall_ok zyg7_ok (k := 74) (a := zbzyx364c) rfl
theorem zyx364e : zrunw zprog2 (zovW [zyx363d]) 100000 (zcutW [] none ((zyx364r, zyh449), 5, 600) zyx364p) 5 600 kX8_number (zkin zyx364r zyh449) 0 (zargs 0 zyx364a, [], (zyh448.1, zyh448.2.1, 0), 0, 0) = true := zall_ok zyg7_ok (k := 75) (a := zbzyx364e) rfl
theorem zyx364 {l : Launch} {D : va_G} {tys : List (ClassId × FieldType)} {o : zO} {z : Nat} (E : zEnv tys) : zKnW l D vwCl tys o z (zXX o z) zTs zprog2 zyx364d :=
  zkn_mk E (fun g => List.forall_mem_cons.mpr ⟨zyx363 (o := zwith o g) E, fun _ h => absurd h List.not_mem_nil⟩) (show zget zprog2 259 = some mX8_number from rfl) rfl (by decide) (by decide) (by decide) (by decide) (G := zyx364p) (zkn_pt E (fun g => List.forall_mem_cons.mpr ⟨zyx363 (o := zwith o g) E, fun _ h => absurd h List.not_mem_nil⟩) (show zget zprog2 259 = some mX8_number from rfl) (fun _ h => absurd h List.not_mem_nil) zyx364c) zyx364e
theorem zyx365e : zrunw zprog2 (zovW [zyx362d, zyx359d, zyx337d, zyx364d, zyx336d]) 100000 (zcutW [] none ((zyx365r, zyh449), 20, 2460) zyx365p) 20 2460 k2X8_thing (zkin zyx365r zyh449) 0 (zargs 0 zyx365a, [], (zyh448.1, zyh448.2.1, 0), 0, 0) = true := zall_ok zyg7_ok (k := 76) (a := zbzyx365e) rfl
theorem zyx365 {l : Launch} {D : va_G} {tys : List (ClassId × FieldType)} {o : zO} {z : Nat} (E : zEnv tys) : zKnW l D vwCl tys o z (zXX o z) zTs zprog2 zyx365d :=
  zkn_mk E (fun g => List.forall_mem_cons.mpr ⟨zyx362 (o := zwith o g) E, List.forall_mem_cons.mpr ⟨zyx359 (o := zwith o g) E, List.forall_mem_cons.mpr ⟨zyx337 (o := zwith o g) E, List.forall_mem_cons.mpr ⟨zyx364 (o := zwith o g) E, List.forall_mem_cons.mpr ⟨zyx336 (o := zwith o g) E, fun _ h => absurd h List.not_mem_nil⟩⟩⟩⟩⟩) (show zget zprog2 292 = some m2X8_thing from rfl) rfl (by decide) (by decide) (by decide) (by decide) (G := zyx365p) (fun _ h => absurd h List.not_mem_nil) zyx365e
theorem zyx366c : zchkX [(94, 15)] zprog2 (zovW [zyx359d, zyx365d]) 100000 k2X8_product [zyx360q, zyx354q, zyx348q, zyx342q] [zyx366q] [zyx366q] = true := zall_ok zyg7_ok (k := 77) (a := zbzyx366c) rfl
theorem zyx366k {l : Launch} {D : va_G} {tys : List (ClassId × FieldType)} {o : zO} {z : Nat} (E : zEnv tys) : zPtOk l D vwCl tys o z (zXX o z) zTs m2X8_product zyx366q := zkn_pt E (fun g => List.forall_mem_cons.mpr ⟨zyx359 (o := zwith o g) E, List.forall_mem_cons.mpr ⟨zyx365 (o := zwith o g) E, fun _ h => absurd h List.not_mem_nil⟩⟩) (show zget zprog2 265 = some m2X8_product from rfl) (List.forall_mem_cons.mpr ⟨zyx360k E, List.forall_mem_cons.mpr ⟨zyx354k E, List.forall_mem_cons.mpr ⟨zyx348k E, List.forall_mem_cons.mpr ⟨zyx342k E, fun _ h => absurd h List.not_mem_nil⟩⟩⟩⟩) zyx366c _ List.mem_cons_self
theorem zyx366e : zrunw zprog2 (zovW [zyx359d, zyx365d]) 100000 (zcutW [(94, 15)] none ((zyx366r, zyh449), 21, 2580) [zyx366q, zyx360q, zyx354q, zyx348q, zyx342q]) 21 2580 k2X8_product (zkin zyx366r zyh449) 0 (zargs 0 zyx366a, [], (zyh448.1, zyh448.2.1, 0), 0, 0) = true := zall_ok zyg7_ok (k := 78) (a := zbzyx366e) rfl
theorem zyx366 {l : Launch} {D : va_G} {tys : List (ClassId × FieldType)} {o : zO} {z : Nat} (E : zEnv tys) : zKnW l D vwCl tys o z (zXX o z) zTs zprog2 zyx366d :=
  zkn_mk E (fun g => List.forall_mem_cons.mpr ⟨zyx359 (o := zwith o g) E, List.forall_mem_cons.mpr ⟨zyx365 (o := zwith o g) E, fun _ h => absurd h List.not_mem_nil⟩⟩) (show zget zprog2 265 = some m2X8_product from rfl) rfl (by decide) (by decide) (by decide) (by decide) (G := [zyx366q, zyx360q, zyx354q, zyx348q, zyx342q]) (List.forall_mem_cons.mpr ⟨zyx366k E, List.forall_mem_cons.mpr ⟨zyx360k E, List.forall_mem_cons.mpr ⟨zyx354k E, List.forall_mem_cons.mpr ⟨zyx348k E, List.forall_mem_cons.mpr ⟨zyx342k E, fun _ h => absurd h List.not_mem_nil⟩⟩⟩⟩⟩) zyx366e
theorem zyx367c : zchkX [(94, 15)] zprog2 (zovW [zyx360d, zyx366d]) 100000 kX8_sum [zyx361q, zyx355q, zyx349q, zyx343q] [zyx367q] [zyx367q] = true := zall_ok zyg7_ok (k := 79) (a := zbzyx367c) rfl
theorem zyx367k {l : Launch} {D : va_G} {tys : List (ClassId × FieldType)} {o : zO} {z : Nat} (E : zEnv tys) : zPtOk l D vwCl tys o z (zXX o z) zTs mX8_sum zyx367q := zkn_pt E (fun g => List.forall_mem_cons.mpr ⟨zyx360 (o := zwith o g) E, List.forall_mem_cons.mpr ⟨zyx366 (o := zwith o g) E, fun _ h => absurd h List.not_mem_nil⟩⟩) (show zget zprog2 284 = some mX8_sum from rfl) (List.forall_mem_cons.mpr ⟨zyx361k E, List.forall_mem_cons.mpr ⟨zyx355k E, List.forall_mem_cons.mpr ⟨zyx349k E, List.forall_mem_cons.mpr ⟨zyx343k E, fun _ h => absurd h List.not_mem_nil⟩⟩⟩⟩) zyx367c _ List.mem_cons_self
theorem zyx367e : zrunw zprog2 (zovW [zyx360d, zyx366d]) 100000 (zcutW [(94, 15)] none ((zyx367r, zyh449), 22, 2700) [zyx367q, zyx361q, zyx355q, zyx349q, zyx343q]) 22 2700 kX8_sum (zkin zyx367r zyh449) 0 (zargs 0 zyx367a, [], (zyh448.1, zyh448.2.1, 0), 0, 0) = true := zall_ok zyg7_ok (k := 80) (a := zbzyx367e) rfl
theorem zyx367 {l : Launch} {D : va_G} {tys : List (ClassId × FieldType)} {o : zO} {z : Nat} (E : zEnv tys) : zKnW l D vwCl tys o z (zXX o z) zTs zprog2 zyx367d :=
  zkn_mk E (fun g => List.forall_mem_cons.mpr ⟨zyx360 (o := zwith o g) E, List.forall_mem_cons.mpr ⟨zyx366 (o := zwith o g) E, fun _ h => absurd h List.not_mem_nil⟩⟩) (show zget zprog2 284 = some mX8_sum from rfl) rfl (by decide) (by decide) (by decide) (by decide) (G := [zyx367q, zyx361q, zyx355q, zyx349q, zyx343q]) (List.forall_mem_cons.mpr ⟨zyx367k E, List.forall_mem_cons.mpr ⟨zyx361k E, List.forall_mem_cons.mpr ⟨zyx355k E, List.forall_mem_cons.mpr ⟨zyx349k E, List.forall_mem_cons.mpr ⟨zyx343k E, fun _ h => absurd h List.not_mem_nil⟩⟩⟩⟩⟩) zyx367e
theorem zyx368e : zrunw zprog2 (zovW [zyx361d, zyx367d, zyx336d]) 100000 (zcutW [] none ((zyx368r, zyh449), 23, 2820) zyx368p) 23 2820 kX8_heldBy (zkin zyx368r zyh449) 0 (zargs 0 zyx368a, [], (zyh448.1, zyh448.2.1, 0), 0, 0) = true := zall_ok zyg7_ok (k := 81) (a := zbzyx368e) rfl
theorem zyx368 {l : Launch} {D : va_G} {tys : List (ClassId × FieldType)} {o : zO} {z : Nat} (E : zEnv tys) : zKnW l D vwCl tys o z (zXX o z) zTs zprog2 zyx368d :=
  zkn_mk E (fun g => List.forall_mem_cons.mpr ⟨zyx361 (o := zwith o g) E, List.forall_mem_cons.mpr ⟨zyx367 (o := zwith o g) E, List.forall_mem_cons.mpr ⟨zyx336 (o := zwith o g) E, fun _ h => absurd h List.not_mem_nil⟩⟩⟩) (show zget zprog2 229 = some mX8_heldBy from rfl) rfl (by decide) (by decide) (by decide) (by decide) (G := zyx368p) (fun _ h => absurd h List.not_mem_nil) zyx368e
theorem zyx369e : zrunw zprog2 (zovW []) 100000 zcut0 4 480 kX8_oneOf (zkinL zyx369q) 0 (zargs 0 zyx369a, [], (zyh445.1, zyh445.2.1, 0), 0, 0) = true := zall_ok zyg7_ok (k := 82) (a := zbzyx369e) rfl
theorem zyx369 {l : Launch} {D : va_G} {tys : List (ClassId × FieldType)} {o : zO} {z : Nat} (E : zEnv tys) : zKnW l D vwCl tys o z (zXX o z) zTs zprog2 zyx369d :=
  zkn_ml E (fun g => fun _ h => absurd h List.not_mem_nil) (show zget zprog2 260 = some mX8_oneOf from rfl) rfl (by decide) (by decide) (by decide) (by decide) zyx369e
theorem zyx370c : zchkX [] zprog2 (zovW [zyx369d]) 100000 kX8_number [] zyx370p zyx370p = true := zall_ok zyg7_ok (k := 83) (a := zbzyx370c) rfl
theorem zyx370e : zrunw zprog2 (zovW [zyx369d]) 100000 (zcutW [] none ((zyx370r, zyh446), 5, 600) zyx370p) 5 600 kX8_number (zkin zyx370r zyh446) 0 (zargs 0 zyx370a, [], (zyh445.1, zyh445.2.1, 0), 0, 0) = true := zall_ok zyg7_ok (k := 84) (a := zbzyx370e) rfl
theorem zyx370 {l : Launch} {D : va_G} {tys : List (ClassId × FieldType)} {o : zO} {z : Nat} (E : zEnv tys) : zKnW l D vwCl tys o z (zXX o z) zTs zprog2 zyx370d :=
  zkn_mk E (fun g => List.forall_mem_cons.mpr ⟨zyx369 (o := zwith o g) E, fun _ h => absurd h List.not_mem_nil⟩) (show zget zprog2 259 = some mX8_number from rfl) rfl (by decide) (by decide) (by decide) (by decide) (G := zyx370p) (zkn_pt E (fun g => List.forall_mem_cons.mpr ⟨zyx369 (o := zwith o g) E, fun _ h => absurd h List.not_mem_nil⟩) (show zget zprog2 259 = some mX8_number from rfl) (fun _ h => absurd h List.not_mem_nil) zyx370c) zyx370e
theorem zyx371e : zrunw zprog2 (zovW [zyx368d, zyx365d, zyx336d, zyx370d, zyx335d]) 100000 (zcutW [] none ((zyx371r, zyh446), 24, 2940) zyx371p) 24 2940 k2X8_thing (zkin zyx371r zyh446) 0 (zargs 0 zyx371a, [], (zyh445.1, zyh445.2.1, 0), 0, 0) = true := zall_ok zyg7_ok (k := 85) (a := zbzyx371e) rfl
theorem zyx371 {l : Launch} {D : va_G} {tys : List (ClassId × FieldType)} {o : zO} {z : Nat} (E : zEnv tys) : zKnW l D vwCl tys o z (zXX o z) zTs zprog2 zyx371d :=
  zkn_mk E (fun g => List.forall_mem_cons.mpr ⟨zyx368 (o := zwith o g) E, List.forall_mem_cons.mpr ⟨zyx365 (o := zwith o g) E, List.forall_mem_cons.mpr ⟨zyx336 (o := zwith o g) E, List.forall_mem_cons.mpr ⟨zyx370 (o := zwith o g) E, List.forall_mem_cons.mpr ⟨zyx335 (o := zwith o g) E, fun _ h => absurd h List.not_mem_nil⟩⟩⟩⟩⟩) (show zget zprog2 292 = some m2X8_thing from rfl) rfl (by decide) (by decide) (by decide) (by decide) (G := zyx371p) (fun _ h => absurd h List.not_mem_nil) zyx371e
theorem zyx372c : zchkX [(94, 15)] zprog2 (zovW [zyx365d, zyx371d]) 100000 k2X8_product [zyx366q, zyx360q, zyx354q, zyx348q, zyx342q] [zyx372q] [zyx372q] = true := zall_ok zyg7_ok (k := 86) (a := zbzyx372c) rfl
theorem zyx372k {l : Launch} {D : va_G} {tys : List (ClassId × FieldType)} {o : zO} {z : Nat} (E : zEnv tys) : zPtOk l D vwCl tys o z (zXX o z) zTs m2X8_product zyx372q := zkn_pt E (fun g => List.forall_mem_cons.mpr ⟨zyx365 (o := zwith o g) E, List.forall_mem_cons.mpr ⟨zyx371 (o := zwith o g) E, fun _ h => absurd h List.not_mem_nil⟩⟩) (show zget zprog2 265 = some m2X8_product from rfl) (List.forall_mem_cons.mpr ⟨zyx366k E, List.forall_mem_cons.mpr ⟨zyx360k E, List.forall_mem_cons.mpr ⟨zyx354k E, List.forall_mem_cons.mpr ⟨zyx348k E, List.forall_mem_cons.mpr ⟨zyx342k E, fun _ h => absurd h List.not_mem_nil⟩⟩⟩⟩⟩) zyx372c _ List.mem_cons_self
theorem zyx372e : zrunw zprog2 (zovW [zyx365d, zyx371d]) 100000 (zcutW [(94, 15)] none ((zyx372r, zyh446), 25, 3060) [zyx372q, zyx366q, zyx360q, zyx354q, zyx348q, zyx342q]) 25 3060 k2X8_product (zkin zyx372r zyh446) 0 (zargs 0 zyx372a, [], (zyh445.1, zyh445.2.1, 0), 0, 0) = true := zall_ok zyg7_ok (k := 87) (a := zbzyx372e) rfl
theorem zyx372 {l : Launch} {D : va_G} {tys : List (ClassId × FieldType)} {o : zO} {z : Nat} (E : zEnv tys) : zKnW l D vwCl tys o z (zXX o z) zTs zprog2 zyx372d :=
  zkn_mk E (fun g => List.forall_mem_cons.mpr ⟨zyx365 (o := zwith o g) E, List.forall_mem_cons.mpr ⟨zyx371 (o := zwith o g) E, fun _ h => absurd h List.not_mem_nil⟩⟩) (show zget zprog2 265 = some m2X8_product from rfl) rfl (by decide) (by decide) (by decide) (by decide) (G := [zyx372q, zyx366q, zyx360q, zyx354q, zyx348q, zyx342q]) (List.forall_mem_cons.mpr ⟨zyx372k E, List.forall_mem_cons.mpr ⟨zyx366k E, List.forall_mem_cons.mpr ⟨zyx360k E, List.forall_mem_cons.mpr ⟨zyx354k E, List.forall_mem_cons.mpr ⟨zyx348k E, List.forall_mem_cons.mpr ⟨zyx342k E, fun _ h => absurd h List.not_mem_nil⟩⟩⟩⟩⟩⟩) zyx372e
theorem zyx373c : zchkX [(94, 15)] zprog2 (zovW [zyx366d, zyx372d]) 100000 kX8_sum [zyx367q, zyx361q, zyx355q, zyx349q, zyx343q] [zyx373q] [zyx373q] = true := zall_ok zyg7_ok (k := 88) (a := zbzyx373c) rfl
theorem zyx373k {l : Launch} {D : va_G} {tys : List (ClassId × FieldType)} {o : zO} {z : Nat} (E : zEnv tys) : zPtOk l D vwCl tys o z (zXX o z) zTs mX8_sum zyx373q := zkn_pt E (fun g => List.forall_mem_cons.mpr ⟨zyx366 (o := zwith o g) E, List.forall_mem_cons.mpr ⟨zyx372 (o := zwith o g) E, fun _ h => absurd h List.not_mem_nil⟩⟩) (show zget zprog2 284 = some mX8_sum from rfl) (List.forall_mem_cons.mpr ⟨zyx367k E, List.forall_mem_cons.mpr ⟨zyx361k E, List.forall_mem_cons.mpr ⟨zyx355k E, List.forall_mem_cons.mpr ⟨zyx349k E, List.forall_mem_cons.mpr ⟨zyx343k E, fun _ h => absurd h List.not_mem_nil⟩⟩⟩⟩⟩) zyx373c _ List.mem_cons_self
theorem zyx373e : zrunw zprog2 (zovW [zyx366d, zyx372d]) 100000 (zcutW [(94, 15)] none ((zyx373r, zyh446), 26, 3180) [zyx373q, zyx367q, zyx361q, zyx355q, zyx349q, zyx343q]) 26 3180 kX8_sum (zkin zyx373r zyh446) 0 (zargs 0 zyx373a, [], (zyh445.1, zyh445.2.1, 0), 0, 0) = true := zall_ok zyg7_ok (k := 89) (a := zbzyx373e) rfl
theorem zyx373 {l : Launch} {D : va_G} {tys : List (ClassId × FieldType)} {o : zO} {z : Nat} (E : zEnv tys) : zKnW l D vwCl tys o z (zXX o z) zTs zprog2 zyx373d :=
  zkn_mk E (fun g => List.forall_mem_cons.mpr ⟨zyx366 (o := zwith o g) E, List.forall_mem_cons.mpr ⟨zyx372 (o := zwith o g) E, fun _ h => absurd h List.not_mem_nil⟩⟩) (show zget zprog2 284 = some mX8_sum from rfl) rfl (by decide) (by decide) (by decide) (by decide) (G := [zyx373q, zyx367q, zyx361q, zyx355q, zyx349q, zyx343q]) (List.forall_mem_cons.mpr ⟨zyx373k E, List.forall_mem_cons.mpr ⟨zyx367k E, List.forall_mem_cons.mpr ⟨zyx361k E, List.forall_mem_cons.mpr ⟨zyx355k E, List.forall_mem_cons.mpr ⟨zyx349k E, List.forall_mem_cons.mpr ⟨zyx343k E, fun _ h => absurd h List.not_mem_nil⟩⟩⟩⟩⟩⟩) zyx373e
theorem zyx374e : zrunw zprog2 (zovW [zyx367d, zyx373d, zyx335d]) 100000 (zcutW [] none ((zyx374r, zyh446), 27, 3300) zyx374p) 27 3300 kX8_heldBy (zkin zyx374r zyh446) 0 (zargs 0 zyx374a, [], (zyh445.1, zyh445.2.1, 0), 0, 0) = true := zall_ok zyg7_ok (k := 90) (a := zbzyx374e) rfl
theorem zyx374 {l : Launch} {D : va_G} {tys : List (ClassId × FieldType)} {o : zO} {z : Nat} (E : zEnv tys) : zKnW l D vwCl tys o z (zXX o z) zTs zprog2 zyx374d :=
  zkn_mk E (fun g => List.forall_mem_cons.mpr ⟨zyx367 (o := zwith o g) E, List.forall_mem_cons.mpr ⟨zyx373 (o := zwith o g) E, List.forall_mem_cons.mpr ⟨zyx335 (o := zwith o g) E, fun _ h => absurd h List.not_mem_nil⟩⟩⟩) (show zget zprog2 229 = some mX8_heldBy from rfl) rfl (by decide) (by decide) (by decide) (by decide) (G := zyx374p) (fun _ h => absurd h List.not_mem_nil) zyx374e
theorem zyx375e : zrunw zprog2 (zovW []) 100000 zcut0 4 480 kX8_oneOf (zkinL zyx375q) 0 (zargs 0 zyx375a, [], (zyh442.1, zyh442.2.1, 0), 0, 0) = true := zall_ok zyg7_ok (k := 91) (a := zbzyx375e) rfl
theorem zyx375 {l : Launch} {D : va_G} {tys : List (ClassId × FieldType)} {o : zO} {z : Nat} (E : zEnv tys) : zKnW l D vwCl tys o z (zXX o z) zTs zprog2 zyx375d :=
  zkn_ml E (fun g => fun _ h => absurd h List.not_mem_nil) (show zget zprog2 260 = some mX8_oneOf from rfl) rfl (by decide) (by decide) (by decide) (by decide) zyx375e
theorem zyx376c : zchkX [] zprog2 (zovW [zyx375d]) 100000 kX8_number [] zyx376p zyx376p = true := zall_ok zyg7_ok (k := 92) (a := zbzyx376c) rfl
theorem zyx376e : zrunw zprog2 (zovW [zyx375d]) 100000 (zcutW [] none ((zyx376r, zyh443), 5, 600) zyx376p) 5 600 kX8_number (zkin zyx376r zyh443) 0 (zargs 0 zyx376a, [], (zyh442.1, zyh442.2.1, 0), 0, 0) = true := zall_ok zyg7_ok (k := 93) (a := zbzyx376e) rfl
theorem zyx376 {l : Launch} {D : va_G} {tys : List (ClassId × FieldType)} {o : zO} {z : Nat} (E : zEnv tys) : zKnW l D vwCl tys o z (zXX o z) zTs zprog2 zyx376d :=
  zkn_mk E (fun g => List.forall_mem_cons.mpr ⟨zyx375 (o := zwith o g) E, fun _ h => absurd h List.not_mem_nil⟩) (show zget zprog2 259 = some mX8_number from rfl) rfl (by decide) (by decide) (by decide) (by decide) (G := zyx376p) (zkn_pt E (fun g => List.forall_mem_cons.mpr ⟨zyx375 (o := zwith o g) E, fun _ h => absurd h List.not_mem_nil⟩) (show zget zprog2 259 = some mX8_number from rfl) (fun _ h => absurd h List.not_mem_nil) zyx376c) zyx376e
theorem zyx377e : zrunw zprog2 (zovW [zyx374d, zyx371d, zyx335d, zyx376d, zyx334d]) 100000 (zcutW [] none ((zyx377r, zyh443), 28, 3420) zyx377p) 28 3420 k2X8_thing (zkin zyx377r zyh443) 0 (zargs 0 zyx377a, [], (zyh442.1, zyh442.2.1, 0), 0, 0) = true := zall_ok zyg7_ok (k := 94) (a := zbzyx377e) rfl
theorem zyx377 {l : Launch} {D : va_G} {tys : List (ClassId × FieldType)} {o : zO} {z : Nat} (E : zEnv tys) : zKnW l D vwCl tys o z (zXX o z) zTs zprog2 zyx377d :=
  zkn_mk E (fun g => List.forall_mem_cons.mpr ⟨zyx374 (o := zwith o g) E, List.forall_mem_cons.mpr ⟨zyx371 (o := zwith o g) E, List.forall_mem_cons.mpr ⟨zyx335 (o := zwith o g) E, List.forall_mem_cons.mpr ⟨zyx376 (o := zwith o g) E, List.forall_mem_cons.mpr ⟨zyx334 (o := zwith o g) E, fun _ h => absurd h List.not_mem_nil⟩⟩⟩⟩⟩) (show zget zprog2 292 = some m2X8_thing from rfl) rfl (by decide) (by decide) (by decide) (by decide) (G := zyx377p) (fun _ h => absurd h List.not_mem_nil) zyx377e
theorem zyx378c : zchkX [(94, 15)] zprog2 (zovW [zyx371d, zyx377d]) 100000 k2X8_product [zyx372q, zyx366q, zyx360q, zyx354q, zyx348q, zyx342q] [zyx378q] [zyx378q] = true := zall_ok zyg7_ok (k := 95) (a := zbzyx378c) rfl
theorem zyx378k {l : Launch} {D : va_G} {tys : List (ClassId × FieldType)} {o : zO} {z : Nat} (E : zEnv tys) : zPtOk l D vwCl tys o z (zXX o z) zTs m2X8_product zyx378q := zkn_pt E (fun g => List.forall_mem_cons.mpr ⟨zyx371 (o := zwith o g) E, List.forall_mem_cons.mpr ⟨zyx377 (o := zwith o g) E, fun _ h => absurd h List.not_mem_nil⟩⟩) (show zget zprog2 265 = some m2X8_product from rfl) (List.forall_mem_cons.mpr ⟨zyx372k E, List.forall_mem_cons.mpr ⟨zyx366k E, List.forall_mem_cons.mpr ⟨zyx360k E, List.forall_mem_cons.mpr ⟨zyx354k E, List.forall_mem_cons.mpr ⟨zyx348k E, List.forall_mem_cons.mpr ⟨zyx342k E, fun _ h => absurd h List.not_mem_nil⟩⟩⟩⟩⟩⟩) zyx378c _ List.mem_cons_self
theorem zyx378e : zrunw zprog2 (zovW [zyx371d, zyx377d]) 100000 (zcutW [(94, 15)] none ((zyx378r, zyh443), 29, 3540) [zyx378q, zyx372q, zyx366q, zyx360q, zyx354q, zyx348q, zyx342q]) 29 3540 k2X8_product (zkin zyx378r zyh443) 0 (zargs 0 zyx378a, [], (zyh442.1, zyh442.2.1, 0), 0, 0) = true := zall_ok zyg7_ok (k := 96) (a := zbzyx378e) rfl
theorem zyx378 {l : Launch} {D : va_G} {tys : List (ClassId × FieldType)} {o : zO} {z : Nat} (E : zEnv tys) : zKnW l D vwCl tys o z (zXX o z) zTs zprog2 zyx378d :=
  zkn_mk E (fun g => List.forall_mem_cons.mpr ⟨zyx371 (o := zwith o g) E, List.forall_mem_cons.mpr ⟨zyx377 (o := zwith o g) E, fun _ h => absurd h List.not_mem_nil⟩⟩) (show zget zprog2 265 = some m2X8_product from rfl) rfl (by decide) (by decide) (by decide) (by decide) (G := [zyx378q, zyx372q, zyx366q, zyx360q, zyx354q, zyx348q, zyx342q]) (List.forall_mem_cons.mpr ⟨zyx378k E, List.forall_mem_cons.mpr ⟨zyx372k E, List.forall_mem_cons.mpr ⟨zyx366k E, List.forall_mem_cons.mpr ⟨zyx360k E, List.forall_mem_cons.mpr ⟨zyx354k E, List.forall_mem_cons.mpr ⟨zyx348k E, List.forall_mem_cons.mpr ⟨zyx342k E, fun _ h => absurd h List.not_mem_nil⟩⟩⟩⟩⟩⟩⟩) zyx378e
theorem zyx379c : zchkX [(94, 15)] zprog2 (zovW [zyx372d, zyx378d]) 100000 kX8_sum [zyx373q, zyx367q, zyx361q, zyx355q, zyx349q, zyx343q] [zyx379q] [zyx379q] = true := zall_ok zyg7_ok (k := 97) (a := zbzyx379c) rfl
theorem zyx379k {l : Launch} {D : va_G} {tys : List (ClassId × FieldType)} {o : zO} {z : Nat} (E : zEnv tys) : zPtOk l D vwCl tys o z (zXX o z) zTs mX8_sum zyx379q := zkn_pt E (fun g => List.forall_mem_cons.mpr ⟨zyx372 (o := zwith o g) E, List.forall_mem_cons.mpr ⟨zyx378 (o := zwith o g) E, fun _ h => absurd h List.not_mem_nil⟩⟩) (show zget zprog2 284 = some mX8_sum from rfl) (List.forall_mem_cons.mpr ⟨zyx373k E, List.forall_mem_cons.mpr ⟨zyx367k E, List.forall_mem_cons.mpr ⟨zyx361k E, List.forall_mem_cons.mpr ⟨zyx355k E, List.forall_mem_cons.mpr ⟨zyx349k E, List.forall_mem_cons.mpr ⟨zyx343k E, fun _ h => absurd h List.not_mem_nil⟩⟩⟩⟩⟩⟩) zyx379c _ List.mem_cons_self
theorem zyx379e : zrunw zprog2 (zovW [zyx372d, zyx378d]) 100000 (zcutW [(94, 15)] none ((zyx379r, zyh443), 30, 3660) [zyx379q, zyx373q, zyx367q, zyx361q, zyx355q, zyx349q, zyx343q]) 30 3660 kX8_sum (zkin zyx379r zyh443) 0 (zargs 0 zyx379a, [], (zyh442.1, zyh442.2.1, 0), 0, 0) = true := zall_ok zyg7_ok (k := 98) (a := zbzyx379e) rfl
theorem zyx379 {l : Launch} {D : va_G} {tys : List (ClassId × FieldType)} {o : zO} {z : Nat} (E : zEnv tys) : zKnW l D vwCl tys o z (zXX o z) zTs zprog2 zyx379d :=
  zkn_mk E (fun g => List.forall_mem_cons.mpr ⟨zyx372 (o := zwith o g) E, List.forall_mem_cons.mpr ⟨zyx378 (o := zwith o g) E, fun _ h => absurd h List.not_mem_nil⟩⟩) (show zget zprog2 284 = some mX8_sum from rfl) rfl (by decide) (by decide) (by decide) (by decide) (G := [zyx379q, zyx373q, zyx367q, zyx361q, zyx355q, zyx349q, zyx343q]) (List.forall_mem_cons.mpr ⟨zyx379k E, List.forall_mem_cons.mpr ⟨zyx373k E, List.forall_mem_cons.mpr ⟨zyx367k E, List.forall_mem_cons.mpr ⟨zyx361k E, List.forall_mem_cons.mpr ⟨zyx355k E, List.forall_mem_cons.mpr ⟨zyx349k E, List.forall_mem_cons.mpr ⟨zyx343k E, fun _ h => absurd h List.not_mem_nil⟩⟩⟩⟩⟩⟩⟩) zyx379e
theorem zyx380e : zrunw zprog2 (zovW [zyx373d, zyx379d, zyx334d]) 100000 (zcutW [] none ((zyx380r, zyh443), 31, 3780) zyx380p) 31 3780 kX8_heldBy (zkin zyx380r zyh443) 0 (zargs 0 zyx380a, [], (zyh442.1, zyh442.2.1, 0), 0, 0) = true := zall_ok zyg7_ok (k := 99) (a := zbzyx380e) rfl
theorem zyx380 {l : Launch} {D : va_G} {tys : List (ClassId × FieldType)} {o : zO} {z : Nat} (E : zEnv tys) : zKnW l D vwCl tys o z (zXX o z) zTs zprog2 zyx380d :=
  zkn_mk E (fun g => List.forall_mem_cons.mpr ⟨zyx373 (o := zwith o g) E, List.forall_mem_cons.mpr ⟨zyx379 (o := zwith o g) E, List.forall_mem_cons.mpr ⟨zyx334 (o := zwith o g) E, fun _ h => absurd h List.not_mem_nil⟩⟩⟩) (show zget zprog2 229 = some mX8_heldBy from rfl) rfl (by decide) (by decide) (by decide) (by decide) (G := zyx380p) (fun _ h => absurd h List.not_mem_nil) zyx380e
theorem zyx381e : zrunw zprog2 (zovW []) 100000 zcut0 4 480 kX8_oneOf (zkinL zyx381q) 0 (zargs 0 zyx381a, [], (zyh439.1, zyh439.2.1, 0), 0, 0) = true := zall_ok zyg7_ok (k := 100) (a := zbzyx381e) rfl
theorem zyx381 {l : Launch} {D : va_G} {tys : List (ClassId × FieldType)} {o : zO} {z : Nat} (E : zEnv tys) : zKnW l D vwCl tys o z (zXX o z) zTs zprog2 zyx381d :=
  zkn_ml E (fun g => fun _ h => absurd h List.not_mem_nil) (show zget zprog2 260 = some mX8_oneOf from rfl) rfl (by decide) (by decide) (by decide) (by decide) zyx381e
theorem zyx382c : zchkX [] zprog2 (zovW [zyx381d]) 100000 kX8_number [] zyx382p zyx382p = true := zall_ok zyg7_ok (k := 101) (a := zbzyx382c) rfl
theorem zyx382e : zrunw zprog2 (zovW [zyx381d]) 100000 (zcutW [] none ((zyx382r, zyh440), 5, 600) zyx382p) 5 600 kX8_number (zkin zyx382r zyh440) 0 (zargs 0 zyx382a, [], (zyh439.1, zyh439.2.1, 0), 0, 0) = true := zall_ok zyg7_ok (k := 102) (a := zbzyx382e) rfl
theorem zyx382 {l : Launch} {D : va_G} {tys : List (ClassId × FieldType)} {o : zO} {z : Nat} (E : zEnv tys) : zKnW l D vwCl tys o z (zXX o z) zTs zprog2 zyx382d :=
  zkn_mk E (fun g => List.forall_mem_cons.mpr ⟨zyx381 (o := zwith o g) E, fun _ h => absurd h List.not_mem_nil⟩) (show zget zprog2 259 = some mX8_number from rfl) rfl (by decide) (by decide) (by decide) (by decide) (G := zyx382p) (zkn_pt E (fun g => List.forall_mem_cons.mpr ⟨zyx381 (o := zwith o g) E, fun _ h => absurd h List.not_mem_nil⟩) (show zget zprog2 259 = some mX8_number from rfl) (fun _ h => absurd h List.not_mem_nil) zyx382c) zyx382e
theorem zyx383e : zrunw zprog2 (zovW [zyx380d, zyx377d, zyx334d, zyx382d, zyx333d]) 100000 (zcutW [] none ((zyx383r, zyh440), 32, 3900) zyx383p) 32 3900 k2X8_thing (zkin zyx383r zyh440) 0 (zargs 0 zyx383a, [], (zyh439.1, zyh439.2.1, 0), 0, 0) = true := zall_ok zyg7_ok (k := 103) (a := zbzyx383e) rfl
theorem zyx383 {l : Launch} {D : va_G} {tys : List (ClassId × FieldType)} {o : zO} {z : Nat} (E : zEnv tys) : zKnW l D vwCl tys o z (zXX o z) zTs zprog2 zyx383d :=
  zkn_mk E (fun g => List.forall_mem_cons.mpr ⟨zyx380 (o := zwith o g) E, List.forall_mem_cons.mpr ⟨zyx377 (o := zwith o g) E, List.forall_mem_cons.mpr ⟨zyx334 (o := zwith o g) E, List.forall_mem_cons.mpr ⟨zyx382 (o := zwith o g) E, List.forall_mem_cons.mpr ⟨zyx333 (o := zwith o g) E, fun _ h => absurd h List.not_mem_nil⟩⟩⟩⟩⟩) (show zget zprog2 292 = some m2X8_thing from rfl) rfl (by decide) (by decide) (by decide) (by decide) (G := zyx383p) (fun _ h => absurd h List.not_mem_nil) zyx383e
theorem zyx384c : zchkX [(94, 15)] zprog2 (zovW [zyx377d, zyx383d]) 100000 k2X8_product [zyx378q, zyx372q, zyx366q, zyx360q, zyx354q, zyx348q, zyx342q] [zyx384q] [zyx384q] = true := zall_ok zyg7_ok (k := 104) (a := zbzyx384c) rfl
theorem zyx384k {l : Launch} {D : va_G} {tys : List (ClassId × FieldType)} {o : zO} {z : Nat} (E : zEnv tys) : zPtOk l D vwCl tys o z (zXX o z) zTs m2X8_product zyx384q := zkn_pt E (fun g => List.forall_mem_cons.mpr ⟨zyx377 (o := zwith o g) E, List.forall_mem_cons.mpr ⟨zyx383 (o := zwith o g) E, fun _ h => absurd h List.not_mem_nil⟩⟩) (show zget zprog2 265 = some m2X8_product from rfl) (List.forall_mem_cons.mpr ⟨zyx378k E, List.forall_mem_cons.mpr ⟨zyx372k E, List.forall_mem_cons.mpr ⟨zyx366k E, List.forall_mem_cons.mpr ⟨zyx360k E, List.forall_mem_cons.mpr ⟨zyx354k E, List.forall_mem_cons.mpr ⟨zyx348k E, List.forall_mem_cons.mpr ⟨zyx342k E, fun _ h => absurd h List.not_mem_nil⟩⟩⟩⟩⟩⟩⟩) zyx384c _ List.mem_cons_self
theorem zyx384e : zrunw zprog2 (zovW [zyx377d, zyx383d]) 100000 (zcutW [(94, 15)] none ((zyx384r, zyh440), 33, 4020) [zyx384q, zyx378q, zyx372q, zyx366q, zyx360q, zyx354q, zyx348q, zyx342q]) 33 4020 k2X8_product (zkin zyx384r zyh440) 0 (zargs 0 zyx384a, [], (zyh439.1, zyh439.2.1, 0), 0, 0) = true := zall_ok zyg7_ok (k := 105) (a := zbzyx384e) rfl
theorem zyx384 {l : Launch} {D : va_G} {tys : List (ClassId × FieldType)} {o : zO} {z : Nat} (E : zEnv tys) : zKnW l D vwCl tys o z (zXX o z) zTs zprog2 zyx384d :=
  zkn_mk E (fun g => List.forall_mem_cons.mpr ⟨zyx377 (o := zwith o g) E, List.forall_mem_cons.mpr ⟨zyx383 (o := zwith o g) E, fun _ h => absurd h List.not_mem_nil⟩⟩) (show zget zprog2 265 = some m2X8_product from rfl) rfl (by decide) (by decide) (by decide) (by decide) (G := [zyx384q, zyx378q, zyx372q, zyx366q, zyx360q, zyx354q, zyx348q, zyx342q]) (List.forall_mem_cons.mpr ⟨zyx384k E, List.forall_mem_cons.mpr ⟨zyx378k E, List.forall_mem_cons.mpr ⟨zyx372k E, List.forall_mem_cons.mpr ⟨zyx366k E, List.forall_mem_cons.mpr ⟨zyx360k E, List.forall_mem_cons.mpr ⟨zyx354k E, List.forall_mem_cons.mpr ⟨zyx348k E, List.forall_mem_cons.mpr ⟨zyx342k E, fun _ h => absurd h List.not_mem_nil⟩⟩⟩⟩⟩⟩⟩⟩) zyx384e
theorem zyx385c : zchkX [(94, 15)] zprog2 (zovW [zyx378d, zyx384d]) 100000 kX8_sum [zyx379q, zyx373q, zyx367q, zyx361q, zyx355q, zyx349q, zyx343q] [zyx385q] [zyx385q] = true := zall_ok zyg7_ok (k := 106) (a := zbzyx385c) rfl
theorem zyx385k {l : Launch} {D : va_G} {tys : List (ClassId × FieldType)} {o : zO} {z : Nat} (E : zEnv tys) : zPtOk l D vwCl tys o z (zXX o z) zTs mX8_sum zyx385q := zkn_pt E (fun g => List.forall_mem_cons.mpr ⟨zyx378 (o := zwith o g) E, List.forall_mem_cons.mpr ⟨zyx384 (o := zwith o g) E, fun _ h => absurd h List.not_mem_nil⟩⟩) (show zget zprog2 284 = some mX8_sum from rfl) (List.forall_mem_cons.mpr ⟨zyx379k E, List.forall_mem_cons.mpr ⟨zyx373k E, List.forall_mem_cons.mpr ⟨zyx367k E, List.forall_mem_cons.mpr ⟨zyx361k E, List.forall_mem_cons.mpr ⟨zyx355k E, List.forall_mem_cons.mpr ⟨zyx349k E, List.forall_mem_cons.mpr ⟨zyx343k E, fun _ h => absurd h List.not_mem_nil⟩⟩⟩⟩⟩⟩⟩) zyx385c _ List.mem_cons_self
theorem zyx385e : zrunw zprog2 (zovW [zyx378d, zyx384d]) 100000 (zcutW [(94, 15)] none ((zyx385r, zyh440), 34, 4140) [zyx385q, zyx379q, zyx373q, zyx367q, zyx361q, zyx355q, zyx349q, zyx343q]) 34 4140 kX8_sum (zkin zyx385r zyh440) 0 (zargs 0 zyx385a, [], (zyh439.1, zyh439.2.1, 0), 0, 0) = true := zall_ok zyg7_ok (k := 107) (a := zbzyx385e) rfl
theorem zyx385 {l : Launch} {D : va_G} {tys : List (ClassId × FieldType)} {o : zO} {z : Nat} (E : zEnv tys) : zKnW l D vwCl tys o z (zXX o z) zTs zprog2 zyx385d :=
  zkn_mk E (fun g => List.forall_mem_cons.mpr ⟨zyx378 (o := zwith o g) E, List.forall_mem_cons.mpr ⟨zyx384 (o := zwith o g) E, fun _ h => absurd h List.not_mem_nil⟩⟩) (show zget zprog2 284 = some mX8_sum from rfl) rfl (by decide) (by decide) (by decide) (by decide) (G := [zyx385q, zyx379q, zyx373q, zyx367q, zyx361q, zyx355q, zyx349q, zyx343q]) (List.forall_mem_cons.mpr ⟨zyx385k E, List.forall_mem_cons.mpr ⟨zyx379k E, List.forall_mem_cons.mpr ⟨zyx373k E, List.forall_mem_cons.mpr ⟨zyx367k E, List.forall_mem_cons.mpr ⟨zyx361k E, List.forall_mem_cons.mpr ⟨zyx355k E, List.forall_mem_cons.mpr ⟨zyx349k E, List.forall_mem_cons.mpr ⟨zyx343k E, fun _ h => absurd h List.not_mem_nil⟩⟩⟩⟩⟩⟩⟩⟩) zyx385e
theorem zyx386e : zrunw zprog2 (zovW [zyx379d, zyx385d, zyx333d]) 100000 (zcutW [] none ((zyx386r, zyh440), 35, 4260) zyx386p) 35 4260 kX8_heldBy (zkin zyx386r zyh440) 0 (zargs 0 zyx386a, [], (zyh439.1, zyh439.2.1, 0), 0, 0) = true := zall_ok zyg7_ok (k := 108) (a := zbzyx386e) rfl
theorem zyx386 {l : Launch} {D : va_G} {tys : List (ClassId × FieldType)} {o : zO} {z : Nat} (E : zEnv tys) : zKnW l D vwCl tys o z (zXX o z) zTs zprog2 zyx386d :=
  zkn_mk E (fun g => List.forall_mem_cons.mpr ⟨zyx379 (o := zwith o g) E, List.forall_mem_cons.mpr ⟨zyx385 (o := zwith o g) E, List.forall_mem_cons.mpr ⟨zyx333 (o := zwith o g) E, fun _ h => absurd h List.not_mem_nil⟩⟩⟩) (show zget zprog2 229 = some mX8_heldBy from rfl) rfl (by decide) (by decide) (by decide) (by decide) (G := zyx386p) (fun _ h => absurd h List.not_mem_nil) zyx386e
theorem zyx387e : zrunw zprog2 (zovW []) 100000 zcut0 4 480 kX8_oneOf (zkinL zyx387q) 0 (zargs 0 zyx387a, [], (zyh436.1, zyh436.2.1, 0), 0, 0) = true := zall_ok zyg7_ok (k := 109) (a := zbzyx387e) rfl
theorem zyx387 {l : Launch} {D : va_G} {tys : List (ClassId × FieldType)} {o : zO} {z : Nat} (E : zEnv tys) : zKnW l D vwCl tys o z (zXX o z) zTs zprog2 zyx387d :=
  zkn_ml E (fun g => fun _ h => absurd h List.not_mem_nil) (show zget zprog2 260 = some mX8_oneOf from rfl) rfl (by decide) (by decide) (by decide) (by decide) zyx387e
theorem zyx388c : zchkX [] zprog2 (zovW [zyx387d]) 100000 kX8_number [] zyx388p zyx388p = true := zall_ok zyg7_ok (k := 110) (a := zbzyx388c) rfl
theorem zyx388e : zrunw zprog2 (zovW [zyx387d]) 100000 (zcutW [] none ((zyx388r, zyh437), 5, 600) zyx388p) 5 600 kX8_number (zkin zyx388r zyh437) 0 (zargs 0 zyx388a, [], (zyh436.1, zyh436.2.1, 0), 0, 0) = true := zall_ok zyg7_ok (k := 111) (a := zbzyx388e) rfl
theorem zyx388 {l : Launch} {D : va_G} {tys : List (ClassId × FieldType)} {o : zO} {z : Nat} (E : zEnv tys) : zKnW l D vwCl tys o z (zXX o z) zTs zprog2 zyx388d :=
  zkn_mk E (fun g => List.forall_mem_cons.mpr ⟨zyx387 (o := zwith o g) E, fun _ h => absurd h List.not_mem_nil⟩) (show zget zprog2 259 = some mX8_number from rfl) rfl (by decide) (by decide) (by decide) (by decide) (G := zyx388p) (zkn_pt E (fun g => List.forall_mem_cons.mpr ⟨zyx387 (o := zwith o g) E, fun _ h => absurd h List.not_mem_nil⟩) (show zget zprog2 259 = some mX8_number from rfl) (fun _ h => absurd h List.not_mem_nil) zyx388c) zyx388e
theorem zyx389e : zrunw zprog2 (zovW [zyx386d, zyx383d, zyx333d, zyx388d, zyx332d]) 100000 (zcutW [] none ((zyx389r, zyh437), 36, 4380) zyx389p) 36 4380 k2X8_thing (zkin zyx389r zyh437) 0 (zargs 0 zyx389a, [], (zyh436.1, zyh436.2.1, 0), 0, 0) = true := zall_ok zyg7_ok (k := 112) (a := zbzyx389e) rfl
theorem zyx389 {l : Launch} {D : va_G} {tys : List (ClassId × FieldType)} {o : zO} {z : Nat} (E : zEnv tys) : zKnW l D vwCl tys o z (zXX o z) zTs zprog2 zyx389d :=
  zkn_mk E (fun g => List.forall_mem_cons.mpr ⟨zyx386 (o := zwith o g) E, List.forall_mem_cons.mpr ⟨zyx383 (o := zwith o g) E, List.forall_mem_cons.mpr ⟨zyx333 (o := zwith o g) E, List.forall_mem_cons.mpr ⟨zyx388 (o := zwith o g) E, List.forall_mem_cons.mpr ⟨zyx332 (o := zwith o g) E, fun _ h => absurd h List.not_mem_nil⟩⟩⟩⟩⟩) (show zget zprog2 292 = some m2X8_thing from rfl) rfl (by decide) (by decide) (by decide) (by decide) (G := zyx389p) (fun _ h => absurd h List.not_mem_nil) zyx389e
theorem zyx390c : zchkX [(94, 15)] zprog2 (zovW [zyx383d, zyx389d]) 100000 k2X8_product [zyx384q, zyx378q, zyx372q, zyx366q, zyx360q, zyx354q, zyx348q, zyx342q] [zyx390q] [zyx390q] = true := zall_ok zyg7_ok (k := 113) (a := zbzyx390c) rfl
theorem zyx390k {l : Launch} {D : va_G} {tys : List (ClassId × FieldType)} {o : zO} {z : Nat} (E : zEnv tys) : zPtOk l D vwCl tys o z (zXX o z) zTs m2X8_product zyx390q := zkn_pt E (fun g => List.forall_mem_cons.mpr ⟨zyx383 (o := zwith o g) E, List.forall_mem_cons.mpr ⟨zyx389 (o := zwith o g) E, fun _ h => absurd h List.not_mem_nil⟩⟩) (show zget zprog2 265 = some m2X8_product from rfl) (List.forall_mem_cons.mpr ⟨zyx384k E, List.forall_mem_cons.mpr ⟨zyx378k E, List.forall_mem_cons.mpr ⟨zyx372k E, List.forall_mem_cons.mpr ⟨zyx366k E, List.forall_mem_cons.mpr ⟨zyx360k E, List.forall_mem_cons.mpr ⟨zyx354k E, List.forall_mem_cons.mpr ⟨zyx348k E, List.forall_mem_cons.mpr ⟨zyx342k E, fun _ h => absurd h List.not_mem_nil⟩⟩⟩⟩⟩⟩⟩⟩) zyx390c _ List.mem_cons_self
theorem zyx390e : zrunw zprog2 (zovW [zyx383d, zyx389d]) 100000 (zcutW [(94, 15)] none ((zyx390r, zyh437), 37, 4500) [zyx390q, zyx384q, zyx378q, zyx372q, zyx366q, zyx360q, zyx354q, zyx348q, zyx342q]) 37 4500 k2X8_product (zkin zyx390r zyh437) 0 (zargs 0 zyx390a, [], (zyh436.1, zyh436.2.1, 0), 0, 0) = true := zall_ok zyg7_ok (k := 114) (a := zbzyx390e) rfl
theorem zyx390 {l : Launch} {D : va_G} {tys : List (ClassId × FieldType)} {o : zO} {z : Nat} (E : zEnv tys) : zKnW l D vwCl tys o z (zXX o z) zTs zprog2 zyx390d :=
  zkn_mk E (fun g => List.forall_mem_cons.mpr ⟨zyx383 (o := zwith o g) E, List.forall_mem_cons.mpr ⟨zyx389 (o := zwith o g) E, fun _ h => absurd h List.not_mem_nil⟩⟩) (show zget zprog2 265 = some m2X8_product from rfl) rfl (by decide) (by decide) (by decide) (by decide) (G := [zyx390q, zyx384q, zyx378q, zyx372q, zyx366q, zyx360q, zyx354q, zyx348q, zyx342q]) (List.forall_mem_cons.mpr ⟨zyx390k E, List.forall_mem_cons.mpr ⟨zyx384k E, List.forall_mem_cons.mpr ⟨zyx378k E, List.forall_mem_cons.mpr ⟨zyx372k E, List.forall_mem_cons.mpr ⟨zyx366k E, List.forall_mem_cons.mpr ⟨zyx360k E, List.forall_mem_cons.mpr ⟨zyx354k E, List.forall_mem_cons.mpr ⟨zyx348k E, List.forall_mem_cons.mpr ⟨zyx342k E, fun _ h => absurd h List.not_mem_nil⟩⟩⟩⟩⟩⟩⟩⟩⟩) zyx390e
theorem zyx391c : zchkX [(94, 15)] zprog2 (zovW [zyx384d, zyx390d]) 100000 kX8_sum [zyx385q, zyx379q, zyx373q, zyx367q, zyx361q, zyx355q, zyx349q, zyx343q] [zyx391q] [zyx391q] = true := zall_ok zyg7_ok (k := 115) (a := zbzyx391c) rfl
theorem zyx391k {l : Launch} {D : va_G} {tys : List (ClassId × FieldType)} {o : zO} {z : Nat} (E : zEnv tys) : zPtOk l D vwCl tys o z (zXX o z) zTs mX8_sum zyx391q := zkn_pt E (fun g => List.forall_mem_cons.mpr ⟨zyx384 (o := zwith o g) E, List.forall_mem_cons.mpr ⟨zyx390 (o := zwith o g) E, fun _ h => absurd h List.not_mem_nil⟩⟩) (show zget zprog2 284 = some mX8_sum from rfl) (List.forall_mem_cons.mpr ⟨zyx385k E, List.forall_mem_cons.mpr ⟨zyx379k E, List.forall_mem_cons.mpr ⟨zyx373k E, List.forall_mem_cons.mpr ⟨zyx367k E, List.forall_mem_cons.mpr ⟨zyx361k E, List.forall_mem_cons.mpr ⟨zyx355k E, List.forall_mem_cons.mpr ⟨zyx349k E, List.forall_mem_cons.mpr ⟨zyx343k E, fun _ h => absurd h List.not_mem_nil⟩⟩⟩⟩⟩⟩⟩⟩) zyx391c _ List.mem_cons_self
theorem zyx391e : zrunw zprog2 (zovW [zyx384d, zyx390d]) 100000 (zcutW [(94, 15)] none ((zyx391r, zyh437), 38, 4620) [zyx391q, zyx385q, zyx379q, zyx373q, zyx367q, zyx361q, zyx355q, zyx349q, zyx343q]) 38 4620 kX8_sum (zkin zyx391r zyh437) 0 (zargs 0 zyx391a, [], (zyh436.1, zyh436.2.1, 0), 0, 0) = true := zall_ok zyg7_ok (k := 116) (a := zbzyx391e) rfl
theorem zyx391 {l : Launch} {D : va_G} {tys : List (ClassId × FieldType)} {o : zO} {z : Nat} (E : zEnv tys) : zKnW l D vwCl tys o z (zXX o z) zTs zprog2 zyx391d :=
  zkn_mk E (fun g => List.forall_mem_cons.mpr ⟨zyx384 (o := zwith o g) E, List.forall_mem_cons.mpr ⟨zyx390 (o := zwith o g) E, fun _ h => absurd h List.not_mem_nil⟩⟩) (show zget zprog2 284 = some mX8_sum from rfl) rfl (by decide) (by decide) (by decide) (by decide) (G := [zyx391q, zyx385q, zyx379q, zyx373q, zyx367q, zyx361q, zyx355q, zyx349q, zyx343q]) (List.forall_mem_cons.mpr ⟨zyx391k E, List.forall_mem_cons.mpr ⟨zyx385k E, List.forall_mem_cons.mpr ⟨zyx379k E, List.forall_mem_cons.mpr ⟨zyx373k E, List.forall_mem_cons.mpr ⟨zyx367k E, List.forall_mem_cons.mpr ⟨zyx361k E, List.forall_mem_cons.mpr ⟨zyx355k E, List.forall_mem_cons.mpr ⟨zyx349k E, List.forall_mem_cons.mpr ⟨zyx343k E, fun _ h => absurd h List.not_mem_nil⟩⟩⟩⟩⟩⟩⟩⟩⟩) zyx391e
theorem zyx392e : zrunw zprog2 (zovW [zyx385d, zyx391d, zyx332d]) 100000 (zcutW [] none ((zyx392r, zyh437), 39, 4740) zyx392p) 39 4740 kX8_heldBy (zkin zyx392r zyh437) 0 (zargs 0 zyx392a, [], (zyh436.1, zyh436.2.1, 0), 0, 0) = true := zall_ok zyg7_ok (k := 117) (a := zbzyx392e) rfl
theorem zyx392 {l : Launch} {D : va_G} {tys : List (ClassId × FieldType)} {o : zO} {z : Nat} (E : zEnv tys) : zKnW l D vwCl tys o z (zXX o z) zTs zprog2 zyx392d :=
  zkn_mk E (fun g => List.forall_mem_cons.mpr ⟨zyx385 (o := zwith o g) E, List.forall_mem_cons.mpr ⟨zyx391 (o := zwith o g) E, List.forall_mem_cons.mpr ⟨zyx332 (o := zwith o g) E, fun _ h => absurd h List.not_mem_nil⟩⟩⟩) (show zget zprog2 229 = some mX8_heldBy from rfl) rfl (by decide) (by decide) (by decide) (by decide) (G := zyx392p) (fun _ h => absurd h List.not_mem_nil) zyx392e
theorem zyx393e : zrunw zprog2 (zovW []) 100000 zcut0 4 480 kX8_oneOf (zkinL zyx393q) 0 (zargs 0 zyx393a, [], (zyh433.1, zyh433.2.1, 0), 0, 0) = true := zall_ok zyg7_ok (k := 118) (a := zbzyx393e) rfl
theorem zyx393 {l : Launch} {D : va_G} {tys : List (ClassId × FieldType)} {o : zO} {z : Nat} (E : zEnv tys) : zKnW l D vwCl tys o z (zXX o z) zTs zprog2 zyx393d :=
  zkn_ml E (fun g => fun _ h => absurd h List.not_mem_nil) (show zget zprog2 260 = some mX8_oneOf from rfl) rfl (by decide) (by decide) (by decide) (by decide) zyx393e
theorem zyx394c : zchkX [] zprog2 (zovW [zyx393d]) 100000 kX8_number [] zyx394p zyx394p = true := zall_ok zyg7_ok (k := 119) (a := zbzyx394c) rfl
theorem zyx394e : zrunw zprog2 (zovW [zyx393d]) 100000 (zcutW [] none ((zyx394r, zyh434), 5, 600) zyx394p) 5 600 kX8_number (zkin zyx394r zyh434) 0 (zargs 0 zyx394a, [], (zyh433.1, zyh433.2.1, 0), 0, 0) = true := zall_ok zyg7_ok (k := 120) (a := zbzyx394e) rfl
theorem zyx394 {l : Launch} {D : va_G} {tys : List (ClassId × FieldType)} {o : zO} {z : Nat} (E : zEnv tys) : zKnW l D vwCl tys o z (zXX o z) zTs zprog2 zyx394d :=
  zkn_mk E (fun g => List.forall_mem_cons.mpr ⟨zyx393 (o := zwith o g) E, fun _ h => absurd h List.not_mem_nil⟩) (show zget zprog2 259 = some mX8_number from rfl) rfl (by decide) (by decide) (by decide) (by decide) (G := zyx394p) (zkn_pt E (fun g => List.forall_mem_cons.mpr ⟨zyx393 (o := zwith o g) E, fun _ h => absurd h List.not_mem_nil⟩) (show zget zprog2 259 = some mX8_number from rfl) (fun _ h => absurd h List.not_mem_nil) zyx394c) zyx394e
theorem zyx395e : zrunw zprog2 (zovW [zyx392d, zyx389d, zyx332d, zyx394d, zyx331d]) 100000 (zcutW [] none ((zyx395r, zyh434), 40, 4860) zyx395p) 40 4860 k2X8_thing (zkin zyx395r zyh434) 0 (zargs 0 zyx395a, [], (zyh433.1, zyh433.2.1, 0), 0, 0) = true := zall_ok zyg7_ok (k := 121) (a := zbzyx395e) rfl
theorem zyx395 {l : Launch} {D : va_G} {tys : List (ClassId × FieldType)} {o : zO} {z : Nat} (E : zEnv tys) : zKnW l D vwCl tys o z (zXX o z) zTs zprog2 zyx395d :=
  zkn_mk E (fun g => List.forall_mem_cons.mpr ⟨zyx392 (o := zwith o g) E, List.forall_mem_cons.mpr ⟨zyx389 (o := zwith o g) E, List.forall_mem_cons.mpr ⟨zyx332 (o := zwith o g) E, List.forall_mem_cons.mpr ⟨zyx394 (o := zwith o g) E, List.forall_mem_cons.mpr ⟨zyx331 (o := zwith o g) E, fun _ h => absurd h List.not_mem_nil⟩⟩⟩⟩⟩) (show zget zprog2 292 = some m2X8_thing from rfl) rfl (by decide) (by decide) (by decide) (by decide) (G := zyx395p) (fun _ h => absurd h List.not_mem_nil) zyx395e
theorem zyx396c : zchkX [(94, 15)] zprog2 (zovW [zyx389d, zyx395d]) 100000 k2X8_product [zyx390q, zyx384q, zyx378q, zyx372q, zyx366q, zyx360q, zyx354q, zyx348q, zyx342q] [zyx396q] [zyx396q] = true := zall_ok zyg7_ok (k := 122) (a := zbzyx396c) rfl
theorem zyx396k {l : Launch} {D : va_G} {tys : List (ClassId × FieldType)} {o : zO} {z : Nat} (E : zEnv tys) : zPtOk l D vwCl tys o z (zXX o z) zTs m2X8_product zyx396q := zkn_pt E (fun g => List.forall_mem_cons.mpr ⟨zyx389 (o := zwith o g) E, List.forall_mem_cons.mpr ⟨zyx395 (o := zwith o g) E, fun _ h => absurd h List.not_mem_nil⟩⟩) (show zget zprog2 265 = some m2X8_product from rfl) (List.forall_mem_cons.mpr ⟨zyx390k E, List.forall_mem_cons.mpr ⟨zyx384k E, List.forall_mem_cons.mpr ⟨zyx378k E, List.forall_mem_cons.mpr ⟨zyx372k E, List.forall_mem_cons.mpr ⟨zyx366k E, List.forall_mem_cons.mpr ⟨zyx360k E, List.forall_mem_cons.mpr ⟨zyx354k E, List.forall_mem_cons.mpr ⟨zyx348k E, List.forall_mem_cons.mpr ⟨zyx342k E, fun _ h => absurd h List.not_mem_nil⟩⟩⟩⟩⟩⟩⟩⟩⟩) zyx396c _ List.mem_cons_self
theorem zyx396e : zrunw zprog2 (zovW [zyx389d, zyx395d]) 100000 (zcutW [(94, 15)] none ((zyx396r, zyh434), 41, 4980) [zyx396q, zyx390q, zyx384q, zyx378q, zyx372q, zyx366q, zyx360q, zyx354q, zyx348q, zyx342q]) 41 4980 k2X8_product (zkin zyx396r zyh434) 0 (zargs 0 zyx396a, [], (zyh433.1, zyh433.2.1, 0), 0, 0) = true := zall_ok zyg7_ok (k := 123) (a := zbzyx396e) rfl
theorem zyx396 {l : Launch} {D : va_G} {tys : List (ClassId × FieldType)} {o : zO} {z : Nat} (E : zEnv tys) : zKnW l D vwCl tys o z (zXX o z) zTs zprog2 zyx396d :=
  zkn_mk E (fun g => List.forall_mem_cons.mpr ⟨zyx389 (o := zwith o g) E, List.forall_mem_cons.mpr ⟨zyx395 (o := zwith o g) E, fun _ h => absurd h List.not_mem_nil⟩⟩) (show zget zprog2 265 = some m2X8_product from rfl) rfl (by decide) (by decide) (by decide) (by decide) (G := [zyx396q, zyx390q, zyx384q, zyx378q, zyx372q, zyx366q, zyx360q, zyx354q, zyx348q, zyx342q]) (List.forall_mem_cons.mpr ⟨zyx396k E, List.forall_mem_cons.mpr ⟨zyx390k E, List.forall_mem_cons.mpr ⟨zyx384k E, List.forall_mem_cons.mpr ⟨zyx378k E, List.forall_mem_cons.mpr ⟨zyx372k E, List.forall_mem_cons.mpr ⟨zyx366k E, List.forall_mem_cons.mpr ⟨zyx360k E, List.forall_mem_cons.mpr ⟨zyx354k E, List.forall_mem_cons.mpr ⟨zyx348k E, List.forall_mem_cons.mpr ⟨zyx342k E, fun _ h => absurd h List.not_mem_nil⟩⟩⟩⟩⟩⟩⟩⟩⟩⟩) zyx396e

