def zym13 : Nat := 28638903918474961204418783933674838490721739172170652529441449702311064005352904159345284265824628375429359509219000446913121156363963926024252914046098933261873561626039493592465981900767092174168366199282459011041491316128343849793292321708102909952
noncomputable def zyh342 : zH := (126, [zyr0, zyr1, zyr2, zyr3, zyr4, zyr5, zyr6, zyr7], zym13)
noncomputable def zyc378 : zC := .inr (8, [zyv114, zyv15, zyv15, zyv15, zyv114, zyv114, zyv114, zyv114, zyv15, zyv114, zyv15, zyv15, zyv126, zyv17, zyv314, zyv35, zyv124, zyv114, zyv114, zyv114, zyv15, zyv36, zyv129, zyv114, zyv15, zyv114, zyv114, zyv15, zyv15, zyv114, zyv114, zyv114, zyv114, zyv114, zyv114, zyv114, zyv114, zyv114, zyv114, zyv15, zyv114, zyv114, zyv114, zyv114, zyv15, zyv15, zyv15, zyv15, zyv114, zyv114, zyv114])
noncomputable def zyr312 : List zC := [zyc60, zyc60, zyc60, zyc69, zyc10, zyc10, zyc10, zyc12, zyc70, zyc8, zyc8, zyc70, zyc8, zyc8, zyc378, zyc52]
noncomputable def zyh343 : zH := (126, [zyr9, zyr10, zyr11, zyr12, zyr13, zyr312, zyr6, zyr7], 0)
noncomputable def zyh344 : zH := (126, [zyr9, zyr10, zyr11, zyr12, zyr13, zyr312, zyr6, zyr7], zym9)
noncomputable def zyc379 : zC := .inr (8, [zyv114, zyv15, zyv15, zyv15, zyv114, zyv114, zyv114, zyv114, zyv15, zyv114, zyv15, zyv15, zyv126, zyv17, zyv314, zyv317, zyv239, zyv114, zyv114, zyv114, zyv15, zyv36, zyv129, zyv114, zyv15, zyv114, zyv114, zyv15, zyv15, zyv114, zyv114, zyv114, zyv114, zyv114, zyv114, zyv114, zyv114, zyv114, zyv114, zyv15, zyv114, zyv114, zyv114, zyv114, zyv15, zyv15, zyv15, zyv15, zyv114, zyv114, zyv114])
noncomputable def zyr313 : List zC := [zyc60, zyc60, zyc60, zyc69, zyc10, zyc10, zyc10, zyc12, zyc70, zyc8, zyc8, zyc70, zyc8, zyc8, zyc379, zyc52]
noncomputable def zyh345 : zH := (126, [zyr9, zyr10, zyr11, zyr12, zyr13, zyr313, zyr6, zyr7], zym9)
noncomputable def zyc380 : zC := .inr (8, [zyv114, zyv15, zyv15, zyv15, zyv114, zyv114, zyv114, zyv114, zyv15, zyv114, zyv15, zyv15, zyv126, zyv17, zyv314, zyv317, zyv124, zyv114, zyv114, zyv114, zyv15, zyv36, zyv129, zyv114, zyv15, zyv114, zyv114, zyv15, zyv15, zyv114, zyv114, zyv114, zyv114, zyv114, zyv114, zyv114, zyv114, zyv114, zyv114, zyv15, zyv114, zyv114, zyv114, zyv114, zyv15, zyv15, zyv15, zyv15, zyv114, zyv114, zyv114])
noncomputable def zyr314 : List zC := [zyc60, zyc60, zyc60, zyc69, zyc10, zyc10, zyc10, zyc12, zyc70, zyc8, zyc8, zyc70, zyc8, zyc8, zyc380, zyc52]
noncomputable def zyh346 : zH := (126, [zyr9, zyr10, zyr11, zyr12, zyr13, zyr314, zyr6, zyr7], 0)
noncomputable def zyh347 : zH := (126, [zyr9, zyr10, zyr11, zyr12, zyr13, zyr314, zyr6, zyr7], zym9)
noncomputable def zyc381 : zC := .inr (8, [zyv114, zyv15, zyv15, zyv15, zyv114, zyv114, zyv114, zyv114, zyv15, zyv114, zyv15, zyv15, zyv126, zyv17, zyv314, zyv319, zyv239, zyv114, zyv114, zyv114, zyv15, zyv36, zyv129, zyv114, zyv15, zyv114, zyv114, zyv15, zyv15, zyv114, zyv114, zyv114, zyv114, zyv114, zyv114, zyv114, zyv114, zyv114, zyv114, zyv15, zyv114, zyv114, zyv114, zyv114, zyv15, zyv15, zyv15, zyv15, zyv114, zyv114, zyv114])
noncomputable def zyr315 : List zC := [zyc60, zyc60, zyc60, zyc69, zyc10, zyc10, zyc10, zyc12, zyc70, zyc8, zyc8, zyc70, zyc8, zyc8, zyc381, zyc52]
noncomputable def zyh348 : zH := (126, [zyr9, zyr10, zyr11, zyr12, zyr13, zyr315, zyr6, zyr7], zym9)
noncomputable def zyc382 : zC := .inr (8, [zyv114, zyv15, zyv15, zyv15, zyv114, zyv114, zyv114, zyv114, zyv15, zyv114, zyv15, zyv15, zyv126, zyv17, zyv314, zyv319, zyv124, zyv114, zyv114, zyv114, zyv15, zyv36, zyv129, zyv114, zyv15, zyv114, zyv114, zyv15, zyv15, zyv114, zyv114, zyv114, zyv114, zyv114, zyv114, zyv114, zyv114, zyv114, zyv114, zyv15, zyv114, zyv114, zyv114, zyv114, zyv15, zyv15, zyv15, zyv15, zyv114, zyv114, zyv114])
noncomputable def zyr316 : List zC := [zyc60, zyc60, zyc60, zyc69, zyc10, zyc10, zyc10, zyc12, zyc70, zyc8, zyc8, zyc70, zyc8, zyc8, zyc382, zyc52]
noncomputable def zyh349 : zH := (126, [zyr9, zyr10, zyr11, zyr12, zyr13, zyr316, zyr6, zyr7], 0)
noncomputable def zyh350 : zH := (126, [zyr9, zyr10, zyr11, zyr12, zyr13, zyr316, zyr6, zyr7], zym9)
noncomputable def zyc383 : zC := .inr (8, [zyv114, zyv15, zyv15, zyv15, zyv114, zyv114, zyv114, zyv114, zyv15, zyv114, zyv15, zyv15, zyv126, zyv17, zyv314, zyv320, zyv239, zyv114, zyv114, zyv114, zyv15, zyv36, zyv129, zyv114, zyv15, zyv114, zyv114, zyv15, zyv15, zyv114, zyv114, zyv114, zyv114, zyv114, zyv114, zyv114, zyv114, zyv114, zyv114, zyv15, zyv114, zyv114, zyv114, zyv114, zyv15, zyv15, zyv15, zyv15, zyv114, zyv114, zyv114])
noncomputable def zyr317 : List zC := [zyc60, zyc60, zyc60, zyc69, zyc10, zyc10, zyc10, zyc12, zyc70, zyc8, zyc8, zyc70, zyc8, zyc8, zyc383, zyc52]
noncomputable def zyh351 : zH := (126, [zyr9, zyr10, zyr11, zyr12, zyr13, zyr317, zyr6, zyr7], zym9)
noncomputable def zyc384 : zC := .inr (8, [zyv114, zyv15, zyv15, zyv15, zyv114, zyv114, zyv114, zyv114, zyv15, zyv114, zyv15, zyv15, zyv126, zyv17, zyv314, zyv320, zyv124, zyv114, zyv114, zyv114, zyv15, zyv36, zyv129, zyv114, zyv15, zyv114, zyv114, zyv15, zyv15, zyv114, zyv114, zyv114, zyv114, zyv114, zyv114, zyv114, zyv114, zyv114, zyv114, zyv15, zyv114, zyv114, zyv114, zyv114, zyv15, zyv15, zyv15, zyv15, zyv114, zyv114, zyv114])
noncomputable def zyr318 : List zC := [zyc60, zyc60, zyc60, zyc69, zyc10, zyc10, zyc10, zyc12, zyc70, zyc8, zyc8, zyc70, zyc8, zyc8, zyc384, zyc52]
noncomputable def zyh352 : zH := (126, [zyr9, zyr10, zyr11, zyr12, zyr13, zyr318, zyr6, zyr7], 0)
noncomputable def zyh353 : zH := (126, [zyr9, zyr10, zyr11, zyr12, zyr13, zyr318, zyr6, zyr7], zym9)
noncomputable def zyc385 : zC := .inr (8, [zyv114, zyv15, zyv15, zyv15, zyv114, zyv114, zyv114, zyv114, zyv15, zyv114, zyv15, zyv15, zyv126, zyv17, zyv314, zyv321, zyv239, zyv114, zyv114, zyv114, zyv15, zyv36, zyv129, zyv114, zyv15, zyv114, zyv114, zyv15, zyv15, zyv114, zyv114, zyv114, zyv114, zyv114, zyv114, zyv114, zyv114, zyv114, zyv114, zyv15, zyv114, zyv114, zyv114, zyv114, zyv15, zyv15, zyv15, zyv15, zyv114, zyv114, zyv114])
noncomputable def zyr319 : List zC := [zyc60, zyc60, zyc60, zyc69, zyc10, zyc10, zyc10, zyc12, zyc70, zyc8, zyc8, zyc70, zyc8, zyc8, zyc385, zyc52]
noncomputable def zyh354 : zH := (126, [zyr9, zyr10, zyr11, zyr12, zyr13, zyr319, zyr6, zyr7], zym9)
noncomputable def zyc386 : zC := .inr (8, [zyv114, zyv15, zyv15, zyv15, zyv114, zyv114, zyv114, zyv114, zyv15, zyv114, zyv15, zyv15, zyv126, zyv17, zyv314, zyv321, zyv124, zyv114, zyv114, zyv114, zyv15, zyv36, zyv129, zyv114, zyv15, zyv114, zyv114, zyv15, zyv15, zyv114, zyv114, zyv114, zyv114, zyv114, zyv114, zyv114, zyv114, zyv114, zyv114, zyv15, zyv114, zyv114, zyv114, zyv114, zyv15, zyv15, zyv15, zyv15, zyv114, zyv114, zyv114])
noncomputable def zyr320 : List zC := [zyc60, zyc60, zyc60, zyc69, zyc10, zyc10, zyc10, zyc12, zyc70, zyc8, zyc8, zyc70, zyc8, zyc8, zyc386, zyc52]
noncomputable def zyh355 : zH := (126, [zyr9, zyr10, zyr11, zyr12, zyr13, zyr320, zyr6, zyr7], 0)
noncomputable def zyh356 : zH := (126, [zyr9, zyr10, zyr11, zyr12, zyr13, zyr320, zyr6, zyr7], zym9)
noncomputable def zyc387 : zC := .inr (8, [zyv114, zyv15, zyv15, zyv15, zyv114, zyv114, zyv114, zyv114, zyv15, zyv114, zyv15, zyv15, zyv126, zyv17, zyv314, zyv322, zyv239, zyv114, zyv114, zyv114, zyv15, zyv36, zyv129, zyv114, zyv15, zyv114, zyv114, zyv15, zyv15, zyv114, zyv114, zyv114, zyv114, zyv114, zyv114, zyv114, zyv114, zyv114, zyv114, zyv15, zyv114, zyv114, zyv114, zyv114, zyv15, zyv15, zyv15, zyv15, zyv114, zyv114, zyv114])
noncomputable def zyr321 : List zC := [zyc60, zyc60, zyc60, zyc69, zyc10, zyc10, zyc10, zyc12, zyc70, zyc8, zyc8, zyc70, zyc8, zyc8, zyc387, zyc52]
noncomputable def zyh357 : zH := (126, [zyr9, zyr10, zyr11, zyr12, zyr13, zyr321, zyr6, zyr7], zym9)
noncomputable def zyc388 : zC := .inr (8, [zyv114, zyv15, zyv15, zyv15, zyv114, zyv114, zyv114, zyv114, zyv15, zyv114, zyv15, zyv15, zyv126, zyv17, zyv314, zyv322, zyv124, zyv114, zyv114, zyv114, zyv15, zyv36, zyv129, zyv114, zyv15, zyv114, zyv114, zyv15, zyv15, zyv114, zyv114, zyv114, zyv114, zyv114, zyv114, zyv114, zyv114, zyv114, zyv114, zyv15, zyv114, zyv114, zyv114, zyv114, zyv15, zyv15, zyv15, zyv15, zyv114, zyv114, zyv114])
noncomputable def zyr322 : List zC := [zyc60, zyc60, zyc60, zyc69, zyc10, zyc10, zyc10, zyc12, zyc70, zyc8, zyc8, zyc70, zyc8, zyc8, zyc388, zyc52]
noncomputable def zyh358 : zH := (126, [zyr9, zyr10, zyr11, zyr12, zyr13, zyr322, zyr6, zyr7], 0)
noncomputable def zyh359 : zH := (126, [zyr9, zyr10, zyr11, zyr12, zyr13, zyr322, zyr6, zyr7], zym9)
noncomputable def zyc389 : zC := .inr (8, [zyv114, zyv15, zyv15, zyv15, zyv114, zyv114, zyv114, zyv114, zyv15, zyv114, zyv15, zyv15, zyv126, zyv17, zyv314, zyv323, zyv239, zyv114, zyv114, zyv114, zyv15, zyv36, zyv129, zyv114, zyv15, zyv114, zyv114, zyv15, zyv15, zyv114, zyv114, zyv114, zyv114, zyv114, zyv114, zyv114, zyv114, zyv114, zyv114, zyv15, zyv114, zyv114, zyv114, zyv114, zyv15, zyv15, zyv15, zyv15, zyv114, zyv114, zyv114])
noncomputable def zyr323 : List zC := [zyc60, zyc60, zyc60, zyc69, zyc10, zyc10, zyc10, zyc12, zyc70, zyc8, zyc8, zyc70, zyc8, zyc8, zyc389, zyc52]
noncomputable def zyh360 : zH := (126, [zyr9, zyr10, zyr11, zyr12, zyr13, zyr323, zyr6, zyr7], zym9)
noncomputable def zyc390 : zC := .inr (8, [zyv114, zyv15, zyv15, zyv15, zyv114, zyv114, zyv114, zyv114, zyv15, zyv114, zyv15, zyv15, zyv126, zyv17, zyv314, zyv323, zyv124, zyv114, zyv114, zyv114, zyv15, zyv36, zyv129, zyv114, zyv15, zyv114, zyv114, zyv15, zyv15, zyv114, zyv114, zyv114, zyv114, zyv114, zyv114, zyv114, zyv114, zyv114, zyv114, zyv15, zyv114, zyv114, zyv114, zyv114, zyv15, zyv15, zyv15, zyv15, zyv114, zyv114, zyv114])
noncomputable def zyr324 : List zC := [zyc60, zyc60, zyc60, zyc69, zyc10, zyc10, zyc10, zyc12, zyc70, zyc8, zyc8, zyc70, zyc8, zyc8, zyc390, zyc52]
noncomputable def zyh361 : zH := (126, [zyr9, zyr10, zyr11, zyr12, zyr13, zyr324, zyr6, zyr7], 0)
noncomputable def zyh362 : zH := (126, [zyr9, zyr10, zyr11, zyr12, zyr13, zyr324, zyr6, zyr7], zym9)
noncomputable def zyc391 : zC := .inr (8, [zyv114, zyv15, zyv15, zyv15, zyv114, zyv114, zyv114, zyv114, zyv15, zyv114, zyv15, zyv15, zyv126, zyv17, zyv314, zyv324, zyv239, zyv114, zyv114, zyv114, zyv15, zyv36, zyv129, zyv114, zyv15, zyv114, zyv114, zyv15, zyv15, zyv114, zyv114, zyv114, zyv114, zyv114, zyv114, zyv114, zyv114, zyv114, zyv114, zyv15, zyv114, zyv114, zyv114, zyv114, zyv15, zyv15, zyv15, zyv15, zyv114, zyv114, zyv114])
noncomputable def zyr325 : List zC := [zyc60, zyc60, zyc60, zyc69, zyc10, zyc10, zyc10, zyc12, zyc70, zyc8, zyc8, zyc70, zyc8, zyc8, zyc391, zyc52]
noncomputable def zyh363 : zH := (126, [zyr9, zyr10, zyr11, zyr12, zyr13, zyr325, zyr6, zyr7], zym9)
noncomputable def zyc392 : zC := .inr (8, [zyv114, zyv15, zyv15, zyv15, zyv114, zyv114, zyv114, zyv114, zyv15, zyv114, zyv15, zyv15, zyv126, zyv17, zyv314, zyv324, zyv124, zyv114, zyv114, zyv114, zyv15, zyv36, zyv129, zyv114, zyv15, zyv114, zyv114, zyv15, zyv15, zyv114, zyv114, zyv114, zyv114, zyv114, zyv114, zyv114, zyv114, zyv114, zyv114, zyv15, zyv114, zyv114, zyv114, zyv114, zyv15, zyv15, zyv15, zyv15, zyv114, zyv114, zyv114])
noncomputable def zyr326 : List zC := [zyc60, zyc60, zyc60, zyc69, zyc10, zyc10, zyc10, zyc12, zyc70, zyc8, zyc8, zyc70, zyc8, zyc8, zyc392, zyc52]
noncomputable def zyh364 : zH := (126, [zyr9, zyr10, zyr11, zyr12, zyr13, zyr326, zyr6, zyr7], 0)
noncomputable def zyh365 : zH := (126, [zyr9, zyr10, zyr11, zyr12, zyr13, zyr326, zyr6, zyr7], zym9)
noncomputable def zyc393 : zC := .inr (8, [zyv114, zyv15, zyv15, zyv15, zyv114, zyv114, zyv114, zyv114, zyv15, zyv114, zyv15, zyv15, zyv126, zyv17, zyv314, zyv325, zyv239, zyv114, zyv114, zyv114, zyv15, zyv36, zyv129, zyv114, zyv15, zyv114, zyv114, zyv15, zyv15, zyv114, zyv114, zyv114, zyv114, zyv114, zyv114, zyv114, zyv114, zyv114, zyv114, zyv15, zyv114, zyv114, zyv114, zyv114, zyv15, zyv15, zyv15, zyv15, zyv114, zyv114, zyv114])
noncomputable def zyr327 : List zC := [zyc60, zyc60, zyc60, zyc69, zyc10, zyc10, zyc10, zyc12, zyc70, zyc8, zyc8, zyc70, zyc8, zyc8, zyc393, zyc52]
noncomputable def zyh366 : zH := (126, [zyr9, zyr10, zyr11, zyr12, zyr13, zyr327, zyr6, zyr7], zym9)
noncomputable def zyc394 : zC := .inr (8, [zyv114, zyv15, zyv15, zyv15, zyv114, zyv114, zyv114, zyv114, zyv15, zyv114, zyv15, zyv15, zyv126, zyv17, zyv314, zyv325, zyv124, zyv114, zyv114, zyv114, zyv15, zyv36, zyv129, zyv114, zyv15, zyv114, zyv114, zyv15, zyv15, zyv114, zyv114, zyv114, zyv114, zyv114, zyv114, zyv114, zyv114, zyv114, zyv114, zyv15, zyv114, zyv114, zyv114, zyv114, zyv15, zyv15, zyv15, zyv15, zyv114, zyv114, zyv114])
noncomputable def zyr328 : List zC := [zyc60, zyc60, zyc60, zyc69, zyc10, zyc10, zyc10, zyc12, zyc70, zyc8, zyc8, zyc70, zyc8, zyc8, zyc394, zyc52]
noncomputable def zyh367 : zH := (126, [zyr9, zyr10, zyr11, zyr12, zyr13, zyr328, zyr6, zyr7], 0)
noncomputable def zyh368 : zH := (126, [zyr9, zyr10, zyr11, zyr12, zyr13, zyr328, zyr6, zyr7], zym9)
noncomputable def zyc395 : zC := .inr (8, [zyv114, zyv15, zyv15, zyv15, zyv114, zyv114, zyv114, zyv114, zyv15, zyv114, zyv15, zyv15, zyv126, zyv17, zyv314, zyv326, zyv239, zyv114, zyv114, zyv114, zyv15, zyv36, zyv129, zyv114, zyv15, zyv114, zyv114, zyv15, zyv15, zyv114, zyv114, zyv114, zyv114, zyv114, zyv114, zyv114, zyv114, zyv114, zyv114, zyv15, zyv114, zyv114, zyv114, zyv114, zyv15, zyv15, zyv15, zyv15, zyv114, zyv114, zyv114])
noncomputable def zyr329 : List zC := [zyc60, zyc60, zyc60, zyc69, zyc10, zyc10, zyc10, zyc12, zyc70, zyc8, zyc8, zyc70, zyc8, zyc8, zyc395, zyc52]
noncomputable def zyh369 : zH := (126, [zyr9, zyr10, zyr11, zyr12, zyr13, zyr329, zyr6, zyr7], zym9)
noncomputable def zyc396 : zC := .inr (8, [zyv114, zyv15, zyv15, zyv15, zyv114, zyv114, zyv114, zyv114, zyv15, zyv114, zyv15, zyv15, zyv126, zyv17, zyv314, zyv326, zyv124, zyv114, zyv114, zyv114, zyv15, zyv36, zyv129, zyv114, zyv15, zyv114, zyv114, zyv15, zyv15, zyv114, zyv114, zyv114, zyv114, zyv114, zyv114, zyv114, zyv114, zyv114, zyv114, zyv15, zyv114, zyv114, zyv114, zyv114, zyv15, zyv15, zyv15, zyv15, zyv114, zyv114, zyv114])
noncomputable def zyr330 : List zC := [zyc60, zyc60, zyc60, zyc69, zyc10, zyc10, zyc10, zyc12, zyc70, zyc8, zyc8, zyc70, zyc8, zyc8, zyc396, zyc52]
noncomputable def zyh370 : zH := (126, [zyr9, zyr10, zyr11, zyr12, zyr13, zyr330, zyr6, zyr7], 0)
noncomputable def zyh371 : zH := (126, [zyr9, zyr10, zyr11, zyr12, zyr13, zyr330, zyr6, zyr7], zym9)
noncomputable def zyc397 : zC := .inr (8, [zyv114, zyv15, zyv15, zyv15, zyv114, zyv114, zyv114, zyv114, zyv15, zyv114, zyv15, zyv15, zyv126, zyv17, zyv314, zyv327, zyv239, zyv114, zyv114, zyv114, zyv15, zyv36, zyv129, zyv114, zyv15, zyv114, zyv114, zyv15, zyv15, zyv114, zyv114, zyv114, zyv114, zyv114, zyv114, zyv114, zyv114, zyv114, zyv114, zyv15, zyv114, zyv114, zyv114, zyv114, zyv15, zyv15, zyv15, zyv15, zyv114, zyv114, zyv114])
noncomputable def zyr331 : List zC := [zyc60, zyc60, zyc60, zyc69, zyc10, zyc10, zyc10, zyc12, zyc70, zyc8, zyc8, zyc70, zyc8, zyc8, zyc397, zyc52]
noncomputable def zyh372 : zH := (126, [zyr9, zyr10, zyr11, zyr12, zyr13, zyr331, zyr6, zyr7], zym9)
noncomputable def zyc398 : zC := .inr (8, [zyv114, zyv15, zyv15, zyv15, zyv114, zyv114, zyv114, zyv114, zyv15, zyv114, zyv15, zyv15, zyv126, zyv17, zyv314, zyv328, zyv124, zyv114, zyv114, zyv114, zyv15, zyv36, zyv129, zyv114, zyv15, zyv114, zyv114, zyv15, zyv15, zyv114, zyv114, zyv114, zyv114, zyv114, zyv114, zyv114, zyv114, zyv114, zyv114, zyv15, zyv114, zyv114, zyv114, zyv114, zyv15, zyv15, zyv15, zyv15, zyv114, zyv114, zyv114])
noncomputable def zyr332 : List zC := [zyc60, zyc60, zyc60, zyc69, zyc10, zyc10, zyc10, zyc12, zyc70, zyc8, zyc8, zyc70, zyc8, zyc8, zyc398, zyc52]
noncomputable def zyh373 : zH := (126, [zyr9, zyr10, zyr11, zyr12, zyr13, zyr332, zyr6, zyr7], 0)
noncomputable def zyh374 : zH := (126, [zyr9, zyr10, zyr11, zyr12, zyr13, zyr332, zyr6, zyr7], zym9)
noncomputable def zyc399 : zC := .inr (8, [zyv114, zyv15, zyv15, zyv15, zyv114, zyv114, zyv114, zyv114, zyv15, zyv114, zyv15, zyv15, zyv126, zyv17, zyv314, zyv329, zyv239, zyv114, zyv114, zyv114, zyv15, zyv36, zyv129, zyv114, zyv15, zyv114, zyv114, zyv15, zyv15, zyv114, zyv114, zyv114, zyv114, zyv114, zyv114, zyv114, zyv114, zyv114, zyv114, zyv15, zyv114, zyv114, zyv114, zyv114, zyv15, zyv15, zyv15, zyv15, zyv114, zyv114, zyv114])
noncomputable def zyr333 : List zC := [zyc60, zyc60, zyc60, zyc69, zyc10, zyc10, zyc10, zyc12, zyc70, zyc8, zyc8, zyc70, zyc8, zyc8, zyc399, zyc52]
noncomputable def zyh375 : zH := (126, [zyr9, zyr10, zyr11, zyr12, zyr13, zyr333, zyr6, zyr7], zym9)
noncomputable def zyc400 : zC := .inr (8, [zyv114, zyv15, zyv15, zyv15, zyv114, zyv114, zyv114, zyv114, zyv15, zyv114, zyv15, zyv15, zyv126, zyv17, zyv314, zyv329, zyv124, zyv114, zyv114, zyv114, zyv15, zyv36, zyv129, zyv114, zyv15, zyv114, zyv114, zyv15, zyv15, zyv114, zyv114, zyv114, zyv114, zyv114, zyv114, zyv114, zyv114, zyv114, zyv114, zyv15, zyv114, zyv114, zyv114, zyv114, zyv15, zyv15, zyv15, zyv15, zyv114, zyv114, zyv114])
noncomputable def zyr334 : List zC := [zyc60, zyc60, zyc60, zyc69, zyc10, zyc10, zyc10, zyc12, zyc70, zyc8, zyc8, zyc70, zyc8, zyc8, zyc400, zyc52]
noncomputable def zyh376 : zH := (126, [zyr9, zyr10, zyr11, zyr12, zyr13, zyr334, zyr6, zyr7], 0)
noncomputable def zyh377 : zH := (126, [zyr9, zyr10, zyr11, zyr12, zyr13, zyr334, zyr6, zyr7], zym9)
noncomputable def zyc401 : zC := .inr (8, [zyv114, zyv15, zyv15, zyv15, zyv114, zyv114, zyv114, zyv114, zyv15, zyv114, zyv15, zyv15, zyv126, zyv17, zyv314, zyv330, zyv239, zyv114, zyv114, zyv114, zyv15, zyv36, zyv129, zyv114, zyv15, zyv114, zyv114, zyv15, zyv15, zyv114, zyv114, zyv114, zyv114, zyv114, zyv114, zyv114, zyv114, zyv114, zyv114, zyv15, zyv114, zyv114, zyv114, zyv114, zyv15, zyv15, zyv15, zyv15, zyv114, zyv114, zyv114])
noncomputable def zyr335 : List zC := [zyc60, zyc60, zyc60, zyc69, zyc10, zyc10, zyc10, zyc12, zyc70, zyc8, zyc8, zyc70, zyc8, zyc8, zyc401, zyc52]
noncomputable def zyh378 : zH := (126, [zyr9, zyr10, zyr11, zyr12, zyr13, zyr335, zyr6, zyr7], zym9)
noncomputable def zyc402 : zC := .inr (8, [zyv114, zyv15, zyv15, zyv15, zyv114, zyv114, zyv114, zyv114, zyv15, zyv114, zyv15, zyv15, zyv126, zyv17, zyv314, zyv330, zyv124, zyv114, zyv114, zyv114, zyv15, zyv36, zyv129, zyv114, zyv15, zyv114, zyv114, zyv15, zyv15, zyv114, zyv114, zyv114, zyv114, zyv114, zyv114, zyv114, zyv114, zyv114, zyv114, zyv15, zyv114, zyv114, zyv114, zyv114, zyv15, zyv15, zyv15, zyv15, zyv114, zyv114, zyv114])
noncomputable def zyr336 : List zC := [zyc60, zyc60, zyc60, zyc69, zyc10, zyc10, zyc10, zyc12, zyc70, zyc8, zyc8, zyc70, zyc8, zyc8, zyc402, zyc52]
noncomputable def zyh379 : zH := (126, [zyr9, zyr10, zyr11, zyr12, zyr13, zyr336, zyr6, zyr7], 0)
noncomputable def zyh380 : zH := (126, [zyr9, zyr10, zyr11, zyr12, zyr13, zyr336, zyr6, zyr7], zym9)
noncomputable def zyc403 : zC := .inr (8, [zyv114, zyv15, zyv15, zyv15, zyv114, zyv114, zyv114, zyv114, zyv15, zyv114, zyv15, zyv15, zyv126, zyv17, zyv314, zyv331, zyv239, zyv114, zyv114, zyv114, zyv15, zyv36, zyv129, zyv114, zyv15, zyv114, zyv114, zyv15, zyv15, zyv114, zyv114, zyv114, zyv114, zyv114, zyv114, zyv114, zyv114, zyv114, zyv114, zyv15, zyv114, zyv114, zyv114, zyv114, zyv15, zyv15, zyv15, zyv15, zyv114, zyv114, zyv114])
noncomputable def zyr337 : List zC := [zyc60, zyc60, zyc60, zyc69, zyc10, zyc10, zyc10, zyc12, zyc70, zyc8, zyc8, zyc70, zyc8, zyc8, zyc403, zyc52]
noncomputable def zyh381 : zH := (126, [zyr9, zyr10, zyr11, zyr12, zyr13, zyr337, zyr6, zyr7], zym9)
noncomputable def zyc404 : zC := .inr (8, [zyv114, zyv15, zyv15, zyv15, zyv114, zyv114, zyv114, zyv114, zyv15, zyv114, zyv15, zyv15, zyv126, zyv17, zyv314, zyv331, zyv124, zyv114, zyv114, zyv114, zyv15, zyv36, zyv129, zyv114, zyv15, zyv114, zyv114, zyv15, zyv15, zyv114, zyv114, zyv114, zyv114, zyv114, zyv114, zyv114, zyv114, zyv114, zyv114, zyv15, zyv114, zyv114, zyv114, zyv114, zyv15, zyv15, zyv15, zyv15, zyv114, zyv114, zyv114])
noncomputable def zyr338 : List zC := [zyc60, zyc60, zyc60, zyc69, zyc10, zyc10, zyc10, zyc12, zyc70, zyc8, zyc8, zyc70, zyc8, zyc8, zyc404, zyc52]
noncomputable def zyh382 : zH := (126, [zyr9, zyr10, zyr11, zyr12, zyr13, zyr338, zyr6, zyr7], 0)
noncomputable def zyh383 : zH := (126, [zyr9, zyr10, zyr11, zyr12, zyr13, zyr338, zyr6, zyr7], zym9)
noncomputable def zyc405 : zC := .inr (8, [zyv114, zyv15, zyv15, zyv15, zyv114, zyv114, zyv114, zyv114, zyv15, zyv114, zyv15, zyv15, zyv126, zyv17, zyv314, zyv332, zyv239, zyv114, zyv114, zyv114, zyv15, zyv36, zyv129, zyv114, zyv15, zyv114, zyv114, zyv15, zyv15, zyv114, zyv114, zyv114, zyv114, zyv114, zyv114, zyv114, zyv114, zyv114, zyv114, zyv15, zyv114, zyv114, zyv114, zyv114, zyv15, zyv15, zyv15, zyv15, zyv114, zyv114, zyv114])
noncomputable def zyr339 : List zC := [zyc60, zyc60, zyc60, zyc69, zyc10, zyc10, zyc10, zyc12, zyc70, zyc8, zyc8, zyc70, zyc8, zyc8, zyc405, zyc52]
noncomputable def zyh384 : zH := (126, [zyr9, zyr10, zyr11, zyr12, zyr13, zyr339, zyr6, zyr7], zym9)
noncomputable def zyc406 : zC := .inr (8, [zyv114, zyv15, zyv15, zyv15, zyv114, zyv114, zyv114, zyv114, zyv15, zyv114, zyv15, zyv15, zyv126, zyv17, zyv314, zyv332, zyv124, zyv114, zyv114, zyv114, zyv15, zyv36, zyv129, zyv114, zyv15, zyv114, zyv114, zyv15, zyv15, zyv114, zyv114, zyv114, zyv114, zyv114, zyv114, zyv114, zyv114, zyv114, zyv114, zyv15, zyv114, zyv114, zyv114, zyv114, zyv15, zyv15, zyv15, zyv15, zyv114, zyv114, zyv114])
noncomputable def zyr340 : List zC := [zyc60, zyc60, zyc60, zyc69, zyc10, zyc10, zyc10, zyc12, zyc70, zyc8, zyc8, zyc70, zyc8, zyc8, zyc406, zyc52]
noncomputable def zyh385 : zH := (126, [zyr9, zyr10, zyr11, zyr12, zyr13, zyr340, zyr6, zyr7], 0)
noncomputable def zyh386 : zH := (126, [zyr9, zyr10, zyr11, zyr12, zyr13, zyr340, zyr6, zyr7], zym9)
noncomputable def zyc407 : zC := .inr (8, [zyv114, zyv15, zyv15, zyv15, zyv114, zyv114, zyv114, zyv114, zyv15, zyv114, zyv15, zyv15, zyv126, zyv17, zyv314, zyv333, zyv239, zyv114, zyv114, zyv114, zyv15, zyv36, zyv129, zyv114, zyv15, zyv114, zyv114, zyv15, zyv15, zyv114, zyv114, zyv114, zyv114, zyv114, zyv114, zyv114, zyv114, zyv114, zyv114, zyv15, zyv114, zyv114, zyv114, zyv114, zyv15, zyv15, zyv15, zyv15, zyv114, zyv114, zyv114])
noncomputable def zyr341 : List zC := [zyc60, zyc60, zyc60, zyc69, zyc10, zyc10, zyc10, zyc12, zyc70, zyc8, zyc8, zyc70, zyc8, zyc8, zyc407, zyc52]
noncomputable def zyh387 : zH := (126, [zyr9, zyr10, zyr11, zyr12, zyr13, zyr341, zyr6, zyr7], zym9)
noncomputable def zyc408 : zC := .inr (8, [zyv114, zyv15, zyv15, zyv15, zyv114, zyv114, zyv114, zyv114, zyv15, zyv114, zyv15, zyv15, zyv126, zyv17, zyv314, zyv333, zyv124, zyv114, zyv114, zyv114, zyv15, zyv36, zyv129, zyv114, zyv15, zyv114, zyv114, zyv15, zyv15, zyv114, zyv114, zyv114, zyv114, zyv114, zyv114, zyv114, zyv114, zyv114, zyv114, zyv15, zyv114, zyv114, zyv114, zyv114, zyv15, zyv15, zyv15, zyv15, zyv114, zyv114, zyv114])
noncomputable def zyr342 : List zC := [zyc60, zyc60, zyc60, zyc69, zyc10, zyc10, zyc10, zyc12, zyc70, zyc8, zyc8, zyc70, zyc8, zyc8, zyc408, zyc52]
noncomputable def zyh388 : zH := (126, [zyr9, zyr10, zyr11, zyr12, zyr13, zyr342, zyr6, zyr7], 0)
noncomputable def zyh389 : zH := (126, [zyr9, zyr10, zyr11, zyr12, zyr13, zyr342, zyr6, zyr7], zym9)
noncomputable def zyc409 : zC := .inr (8, [zyv114, zyv15, zyv15, zyv15, zyv114, zyv114, zyv114, zyv114, zyv15, zyv114, zyv15, zyv15, zyv126, zyv17, zyv314, zyv334, zyv239, zyv114, zyv114, zyv114, zyv15, zyv36, zyv129, zyv114, zyv15, zyv114, zyv114, zyv15, zyv15, zyv114, zyv114, zyv114, zyv114, zyv114, zyv114, zyv114, zyv114, zyv114, zyv114, zyv15, zyv114, zyv114, zyv114, zyv114, zyv15, zyv15, zyv15, zyv15, zyv114, zyv114, zyv114])
noncomputable def zyr343 : List zC := [zyc60, zyc60, zyc60, zyc69, zyc10, zyc10, zyc10, zyc12, zyc70, zyc8, zyc8, zyc70, zyc8, zyc8, zyc409, zyc52]
noncomputable def zyh390 : zH := (126, [zyr9, zyr10, zyr11, zyr12, zyr13, zyr343, zyr6, zyr7], zym9)
/-! X7_hard -/
noncomputable def zyx299a : List zAV := [.inr (.inr (.inl 0)), .inl ((.negSucc 2147483647, .ofNat 2147483647), none), .inl ((.negSucc 2147483647, .ofNat 2147483647), none)]
def zyx299r : Option zAV := some (.inl ((.negSucc 0, .ofNat 999), none))
noncomputable def zyx299d : zKw := (128, 3, 6, 660, zyx299a, zyh0, [(zyx299r, zyh342)])
noncomputable def zbzyx299e : Bool := zrunw zprog2 (zovW [zyx298d, zyx297d]) 100000 (zcutW [] none ((zyx299r, zyh342), 6, 660) []) 6 660 k2X7_hard (zkin zyx299r zyh342) 0 (zargs 0 zyx299a, [], (zyh0.1, zyh0.2.1, 0), 0, 0)
/-! J6_bitCount_0f7a4 -/
noncomputable def zyx300a : List zAV := [.inl ((.negSucc 2147483647, .ofNat 2147483647), none)]
def zyx300r : Option zAV := some (.inl ((.ofNat 0, .ofNat 63), none))
noncomputable def zyx300d : zKw := (14, 1, 2, 300, zyx300a, zyh340, [(zyx300r, zyh340)])
noncomputable def zbzyx300e : Bool := zrunw zprog2 (zovW []) 100000 (zcutW [] none ((zyx300r, zyh340), 2, 300) []) 2 300 k2J6_bitCount_0f7a4 (zkin zyx300r zyh340) 0 (zargs 0 zyx300a, [], (zyh340.1, zyh340.2.1, 0), 0, 0)
/-! X8_passes -/
noncomputable def zyx301a : List zAV := [zyv315, zyv316]
noncomputable def zyx301q : List (Option zAV × zH) := [(some (.inl ((.ofNat 0, .ofNat 0), none)), zyh344), (some (.inl ((.ofNat 1, .ofNat 1), none)), zyh345)]
noncomputable def zyx301d : zKw := (263, 2, 3, 420, zyx301a, zyh343, zyx301q)
noncomputable def zbzyx301e : Bool := zrunw zprog2 (zovW []) 100000 zcut0 3 420 kX8_passes (zkinL zyx301q) 0 (zargs 0 zyx301a, [], (zyh343.1, zyh343.2.1, 0), 0, 0)
/-! X8_passes -/
noncomputable def zyx302a : List zAV := [zyv315, zyv318]
noncomputable def zyx302q : List (Option zAV × zH) := [(some (.inl ((.ofNat 0, .ofNat 0), none)), zyh347), (some (.inl ((.ofNat 1, .ofNat 1), none)), zyh348)]
noncomputable def zyx302d : zKw := (263, 2, 3, 420, zyx302a, zyh346, zyx302q)
noncomputable def zbzyx302e : Bool := zrunw zprog2 (zovW []) 100000 zcut0 3 420 kX8_passes (zkinL zyx302q) 0 (zargs 0 zyx302a, [], (zyh346.1, zyh346.2.1, 0), 0, 0)
/-! X8_passes -/
noncomputable def zyx303a : List zAV := [zyv315, zyv318]
noncomputable def zyx303q : List (Option zAV × zH) := [(some (.inl ((.ofNat 0, .ofNat 0), none)), zyh350), (some (.inl ((.ofNat 1, .ofNat 1), none)), zyh351)]
noncomputable def zyx303d : zKw := (263, 2, 3, 420, zyx303a, zyh349, zyx303q)
noncomputable def zbzyx303e : Bool := zrunw zprog2 (zovW []) 100000 zcut0 3 420 kX8_passes (zkinL zyx303q) 0 (zargs 0 zyx303a, [], (zyh349.1, zyh349.2.1, 0), 0, 0)
/-! X8_passes -/
noncomputable def zyx304a : List zAV := [zyv315, zyv318]
noncomputable def zyx304q : List (Option zAV × zH) := [(some (.inl ((.ofNat 0, .ofNat 0), none)), zyh353), (some (.inl ((.ofNat 1, .ofNat 1), none)), zyh354)]
noncomputable def zyx304d : zKw := (263, 2, 3, 420, zyx304a, zyh352, zyx304q)
noncomputable def zbzyx304e : Bool := zrunw zprog2 (zovW []) 100000 zcut0 3 420 kX8_passes (zkinL zyx304q) 0 (zargs 0 zyx304a, [], (zyh352.1, zyh352.2.1, 0), 0, 0)
/-! X8_passes -/
noncomputable def zyx305a : List zAV := [zyv315, zyv318]
noncomputable def zyx305q : List (Option zAV × zH) := [(some (.inl ((.ofNat 0, .ofNat 0), none)), zyh356), (some (.inl ((.ofNat 1, .ofNat 1), none)), zyh357)]
noncomputable def zyx305d : zKw := (263, 2, 3, 420, zyx305a, zyh355, zyx305q)
noncomputable def zbzyx305e : Bool := zrunw zprog2 (zovW []) 100000 zcut0 3 420 kX8_passes (zkinL zyx305q) 0 (zargs 0 zyx305a, [], (zyh355.1, zyh355.2.1, 0), 0, 0)
/-! X8_passes -/
noncomputable def zyx306a : List zAV := [zyv315, zyv318]
noncomputable def zyx306q : List (Option zAV × zH) := [(some (.inl ((.ofNat 0, .ofNat 0), none)), zyh359), (some (.inl ((.ofNat 1, .ofNat 1), none)), zyh360)]
noncomputable def zyx306d : zKw := (263, 2, 3, 420, zyx306a, zyh358, zyx306q)
noncomputable def zbzyx306e : Bool := zrunw zprog2 (zovW []) 100000 zcut0 3 420 kX8_passes (zkinL zyx306q) 0 (zargs 0 zyx306a, [], (zyh358.1, zyh358.2.1, 0), 0, 0)
/-! X8_passes -/
noncomputable def zyx307a : List zAV := [zyv315, zyv318]
noncomputable def zyx307q : List (Option zAV × zH) := [(some (.inl ((.ofNat 0, .ofNat 0), none)), zyh362), (some (.inl ((.ofNat 1, .ofNat 1), none)), zyh363)]
noncomputable def zyx307d : zKw := (263, 2, 3, 420, zyx307a, zyh361, zyx307q)
noncomputable def zbzyx307e : Bool := zrunw zprog2 (zovW []) 100000 zcut0 3 420 kX8_passes (zkinL zyx307q) 0 (zargs 0 zyx307a, [], (zyh361.1, zyh361.2.1, 0), 0, 0)
/-! X8_passes -/
noncomputable def zyx308a : List zAV := [zyv315, zyv318]
noncomputable def zyx308q : List (Option zAV × zH) := [(some (.inl ((.ofNat 0, .ofNat 0), none)), zyh365), (some (.inl ((.ofNat 1, .ofNat 1), none)), zyh366)]
noncomputable def zyx308d : zKw := (263, 2, 3, 420, zyx308a, zyh364, zyx308q)
noncomputable def zbzyx308e : Bool := zrunw zprog2 (zovW []) 100000 zcut0 3 420 kX8_passes (zkinL zyx308q) 0 (zargs 0 zyx308a, [], (zyh364.1, zyh364.2.1, 0), 0, 0)
/-! X8_passes -/
noncomputable def zyx309a : List zAV := [zyv315, zyv318]
noncomputable def zyx309q : List (Option zAV × zH) := [(some (.inl ((.ofNat 0, .ofNat 0), none)), zyh368), (some (.inl ((.ofNat 1, .ofNat 1), none)), zyh369)]
noncomputable def zyx309d : zKw := (263, 2, 3, 420, zyx309a, zyh367, zyx309q)
noncomputable def zbzyx309e : Bool := zrunw zprog2 (zovW []) 100000 zcut0 3 420 kX8_passes (zkinL zyx309q) 0 (zargs 0 zyx309a, [], (zyh367.1, zyh367.2.1, 0), 0, 0)
/-! X8_passes -/
noncomputable def zyx310a : List zAV := [zyv315, zyv318]
noncomputable def zyx310q : List (Option zAV × zH) := [(some (.inl ((.ofNat 0, .ofNat 0), none)), zyh371), (some (.inl ((.ofNat 1, .ofNat 1), none)), zyh372)]
noncomputable def zyx310d : zKw := (263, 2, 3, 420, zyx310a, zyh370, zyx310q)
noncomputable def zbzyx310e : Bool := zrunw zprog2 (zovW []) 100000 zcut0 3 420 kX8_passes (zkinL zyx310q) 0 (zargs 0 zyx310a, [], (zyh370.1, zyh370.2.1, 0), 0, 0)
/-! X8_passes -/
noncomputable def zyx311a : List zAV := [zyv315, zyv318]
noncomputable def zyx311q : List (Option zAV × zH) := [(some (.inl ((.ofNat 0, .ofNat 0), none)), zyh374), (some (.inl ((.ofNat 1, .ofNat 1), none)), zyh375)]
noncomputable def zyx311d : zKw := (263, 2, 3, 420, zyx311a, zyh373, zyx311q)
noncomputable def zbzyx311e : Bool := zrunw zprog2 (zovW []) 100000 zcut0 3 420 kX8_passes (zkinL zyx311q) 0 (zargs 0 zyx311a, [], (zyh373.1, zyh373.2.1, 0), 0, 0)
/-! X8_passes -/
noncomputable def zyx312a : List zAV := [zyv315, zyv318]
noncomputable def zyx312q : List (Option zAV × zH) := [(some (.inl ((.ofNat 0, .ofNat 0), none)), zyh377), (some (.inl ((.ofNat 1, .ofNat 1), none)), zyh378)]
noncomputable def zyx312d : zKw := (263, 2, 3, 420, zyx312a, zyh376, zyx312q)
noncomputable def zbzyx312e : Bool := zrunw zprog2 (zovW []) 100000 zcut0 3 420 kX8_passes (zkinL zyx312q) 0 (zargs 0 zyx312a, [], (zyh376.1, zyh376.2.1, 0), 0, 0)
/-! X8_passes -/
noncomputable def zyx313a : List zAV := [zyv315, zyv318]
noncomputable def zyx313q : List (Option zAV × zH) := [(some (.inl ((.ofNat 0, .ofNat 0), none)), zyh380), (some (.inl ((.ofNat 1, .ofNat 1), none)), zyh381)]
noncomputable def zyx313d : zKw := (263, 2, 3, 420, zyx313a, zyh379, zyx313q)
noncomputable def zbzyx313e : Bool := zrunw zprog2 (zovW []) 100000 zcut0 3 420 kX8_passes (zkinL zyx313q) 0 (zargs 0 zyx313a, [], (zyh379.1, zyh379.2.1, 0), 0, 0)
/-! X8_passes -/
noncomputable def zyx314a : List zAV := [zyv315, zyv318]
noncomputable def zyx314q : List (Option zAV × zH) := [(some (.inl ((.ofNat 0, .ofNat 0), none)), zyh383), (some (.inl ((.ofNat 1, .ofNat 1), none)), zyh384)]
noncomputable def zyx314d : zKw := (263, 2, 3, 420, zyx314a, zyh382, zyx314q)
noncomputable def zbzyx314e : Bool := zrunw zprog2 (zovW []) 100000 zcut0 3 420 kX8_passes (zkinL zyx314q) 0 (zargs 0 zyx314a, [], (zyh382.1, zyh382.2.1, 0), 0, 0)
/-! X8_passes -/
noncomputable def zyx315a : List zAV := [zyv315, zyv318]
noncomputable def zyx315q : List (Option zAV × zH) := [(some (.inl ((.ofNat 0, .ofNat 0), none)), zyh386), (some (.inl ((.ofNat 1, .ofNat 1), none)), zyh387)]
noncomputable def zyx315d : zKw := (263, 2, 3, 420, zyx315a, zyh385, zyx315q)
noncomputable def zbzyx315e : Bool := zrunw zprog2 (zovW []) 100000 zcut0 3 420 kX8_passes (zkinL zyx315q) 0 (zargs 0 zyx315a, [], (zyh385.1, zyh385.2.1, 0), 0, 0)
/-! X8_passes -/
noncomputable def zyx316a : List zAV := [zyv315, zyv318]
noncomputable def zyx316q : List (Option zAV × zH) := [(some (.inl ((.ofNat 0, .ofNat 0), none)), zyh389), (some (.inl ((.ofNat 1, .ofNat 1), none)), zyh390)]
noncomputable def zyx316d : zKw := (263, 2, 3, 420, zyx316a, zyh388, zyx316q)
noncomputable def zbzyx316e : Bool := zrunw zprog2 (zovW []) 100000 zcut0 3 420 kX8_passes (zkinL zyx316q) 0 (zargs 0 zyx316a, [], (zyh388.1, zyh388.2.1, 0), 0, 0)
noncomputable def zyg15 : List Bool := [zbzyx299e, zbzyx300e, zbzyx301e, zbzyx302e, zbzyx303e, zbzyx304e, zbzyx305e, zbzyx306e, zbzyx307e, zbzyx308e, zbzyx309e, zbzyx310e, zbzyx311e, zbzyx312e, zbzyx313e, zbzyx314e, zbzyx315e, zbzyx316e]
set_option maxRecDepth 100000 in
theorem zyg15_ok : zall (fun b => b) zyg15 = true := by decide +kernel
theorem zyx299e : zrunw zprog2 (zovW [zyx298d, zyx297d]) 100000 (zcutW [] none ((zyx299r, zyh342), 6, 660) []) 6 660 k2X7_hard (zkin zyx299r zyh342) 0 (zargs 0 zyx299a, [], (zyh0.1, zyh0.2.1, 0), 0, 0) = true := zall_ok zyg15_ok (k := 0) (a := zbzyx299e) rfl
theorem zyx299 {l : Launch} {D : va_G} {tys : List (ClassId × FieldType)} {o : zO} {z : Nat} (E : zEnv tys) : zKnW l D vwCl tys o z (zXX o z) zTs zprog2 zyx299d :=
  zkn_mk E (fun g => List.forall_mem_cons.mpr ⟨zyx298 (o := zwith o g) E, List.forall_mem_cons.mpr ⟨zyx297 (o := zwith o g) E, fun _ h => absurd h List.not_mem_nil⟩⟩) (show zget zprog2 128 = some m2X7_hard from rfl) rfl (by decide) (by decide) (by decide) (by decide) (G := []) (fun _ h => absurd h List.not_mem_nil) zyx299e
theorem zyx300e : zrunw zprog2 (zovW []) 100000 (zcutW [] none ((zyx300r, zyh340), 2, 300) []) 2 300 k2J6_bitCount_0f7a4 (zkin zyx300r zyh340) 0 (zargs 0 zyx300a, [], (zyh340.1, zyh340.2.1, 0), 0, 0) = true := zall_ok zyg15_ok (k := 1) (a := zbzyx300e) rfl
theorem zyx300 {l : Launch} {D : va_G} {tys : List (ClassId × FieldType)} {o : zO} {z : Nat} (E : zEnv tys) : zKnW l D vwCl tys o z (zXX o z) zTs zprog2 zyx300d :=
  zkn_mk E (fun g => fun _ h => absurd h List.not_mem_nil) (show zget zprog2 14 = some m2J6_bitCount_0f7a4 from rfl) rfl (by decide) (by decide) (by decide) (by decide) (G := []) (fun _ h => absurd h List.not_mem_nil) zyx300e
theorem zyx301e : zrunw zprog2 (zovW []) 100000 zcut0 3 420 kX8_passes (zkinL zyx301q) 0 (zargs 0 zyx301a, [], (zyh343.1, zyh343.2.1, 0), 0, 0) = true := zall_ok zyg15_ok (k := 2) (a := zbzyx301e) rfl
theorem zyx301 {l : Launch} {D : va_G} {tys : List (ClassId × FieldType)} {o : zO} {z : Nat} (E : zEnv tys) : zKnW l D vwCl tys o z (zXX o z) zTs zprog2 zyx301d :=
  zkn_ml E (fun g => fun _ h => absurd h List.not_mem_nil) (show zget zprog2 263 = some mX8_passes from rfl) rfl (by decide) (by decide) (by decide) (by decide) zyx301e
theorem zyx302e : zrunw zprog2 (zovW []) 100000 zcut0 3 420 kX8_passes (zkinL zyx302q) 0 (zargs 0 zyx302a, [], (zyh346.1, zyh346.2.1, 0), 0, 0) = true := zall_ok zyg15_ok (k := 3) (a := zbzyx302e) rfl
theorem zyx302 {l : Launch} {D : va_G} {tys : List (ClassId × FieldType)} {o : zO} {z : Nat} (E : zEnv tys) : zKnW l D vwCl tys o z (zXX o z) zTs zprog2 zyx302d :=
  zkn_ml E (fun g => fun _ h => absurd h List.not_mem_nil) (show zget zprog2 263 = some mX8_passes from rfl) rfl (by decide) (by decide) (by decide) (by decide) zyx302e
theorem zyx303e : zrunw zprog2 (zovW []) 100000 zcut0 3 420 kX8_passes (zkinL zyx303q) 0 (zargs 0 zyx303a, [], (zyh349.1, zyh349.2.1, 0), 0, 0) = true := zall_ok zyg15_ok (k := 4) (a := zbzyx303e) rfl
theorem zyx303 {l : Launch} {D : va_G} {tys : List (ClassId × FieldType)} {o : zO} {z : Nat} (E : zEnv tys) : zKnW l D vwCl tys o z (zXX o z) zTs zprog2 zyx303d :=
  zkn_ml E (fun g => fun _ h => absurd h List.not_mem_nil) (show zget zprog2 263 = some mX8_passes from rfl) rfl (by decide) (by decide) (by decide) (by decide) zyx303e
theorem zyx304e : zrunw zprog2 (zovW []) 100000 zcut0 3 420 kX8_passes (zkinL zyx304q) 0 (zargs 0 zyx304a, [], (zyh352.1, zyh352.2.1, 0), 0, 0) = true := zall_ok zyg15_ok (k := 5) (a := zbzyx304e) rfl
theorem zyx304 {l : Launch} {D : va_G} {tys : List (ClassId × FieldType)} {o : zO} {z : Nat} (E : zEnv tys) : zKnW l D vwCl tys o z (zXX o z) zTs zprog2 zyx304d :=
  zkn_ml E (fun g => fun _ h => absurd h List.not_mem_nil) (show zget zprog2 263 = some mX8_passes from rfl) rfl (by decide) (by decide) (by decide) (by decide) zyx304e
theorem zyx305e : zrunw zprog2 (zovW []) 100000 zcut0 3 420 kX8_passes (zkinL zyx305q) 0 (zargs 0 zyx305a, [], (zyh355.1, zyh355.2.1, 0), 0, 0) = true := zall_ok zyg15_ok (k := 6) (a := zbzyx305e) rfl
theorem zyx305 {l : Launch} {D : va_G} {tys : List (ClassId × FieldType)} {o : zO} {z : Nat} (E : zEnv tys) : zKnW l D vwCl tys o z (zXX o z) zTs zprog2 zyx305d :=
  zkn_ml E (fun g => fun _ h => absurd h List.not_mem_nil) (show zget zprog2 263 = some mX8_passes from rfl) rfl (by decide) (by decide) (by decide) (by decide) zyx305e
theorem zyx306e : zrunw zprog2 (zovW []) 100000 zcut0 3 420 kX8_passes (zkinL zyx306q) 0 (zargs 0 zyx306a, [], (zyh358.1, zyh358.2.1, 0), 0, 0) = true := zall_ok zyg15_ok (k := 7) (a := zbzyx306e) rfl
theorem zyx306 {l : Launch} {D : va_G} {tys : List (ClassId × FieldType)} {o : zO} {z : Nat} (E : zEnv tys) : zKnW l D vwCl tys o z (zXX o z) zTs zprog2 zyx306d :=
  zkn_ml E (fun g => fun _ h => absurd h List.not_mem_nil) (show zget zprog2 263 = some mX8_passes from rfl) rfl (by decide) (by decide) (by decide) (by decide) zyx306e
theorem zyx307e : zrunw zprog2 (zovW []) 100000 zcut0 3 420 kX8_passes (zkinL zyx307q) 0 (zargs 0 zyx307a, [], (zyh361.1, zyh361.2.1, 0), 0, 0) = true := zall_ok zyg15_ok (k := 8) (a := zbzyx307e) rfl
theorem zyx307 {l : Launch} {D : va_G} {tys : List (ClassId × FieldType)} {o : zO} {z : Nat} (E : zEnv tys) : zKnW l D vwCl tys o z (zXX o z) zTs zprog2 zyx307d :=
  zkn_ml E (fun g => fun _ h => absurd h List.not_mem_nil) (show zget zprog2 263 = some mX8_passes from rfl) rfl (by decide) (by decide) (by decide) (by decide) zyx307e
theorem zyx308e : zrunw zprog2 (zovW []) 100000 zcut0 3 420 kX8_passes (zkinL zyx308q) 0 (zargs 0 zyx308a, [], (zyh364.1, zyh364.2.1, 0), 0, 0) = true := zall_ok zyg15_ok (k := 9) (a := zbzyx308e) rfl
theorem zyx308 {l : Launch} {D : va_G} {tys : List (ClassId × FieldType)} {o : zO} {z : Nat} (E : zEnv tys) : zKnW l D vwCl tys o z (zXX o z) zTs zprog2 zyx308d :=
  zkn_ml E (fun g => fun _ h => absurd h List.not_mem_nil) (show zget zprog2 263 = some mX8_passes from rfl) rfl (by decide) (by decide) (by decide) (by decide) zyx308e
theorem zyx309e : zrunw zprog2 (zovW []) 100000 zcut0 3 420 kX8_passes (zkinL zyx309q) 0 (zargs 0 zyx309a, [], (zyh367.1, zyh367.2.1, 0), 0, 0) = true := zall_ok zyg15_ok (k := 10) (a := zbzyx309e) rfl
theorem zyx309 {l : Launch} {D : va_G} {tys : List (ClassId × FieldType)} {o : zO} {z : Nat} (E : zEnv tys) : zKnW l D vwCl tys o z (zXX o z) zTs zprog2 zyx309d :=
  zkn_ml E (fun g => fun _ h => absurd h List.not_mem_nil) (show zget zprog2 263 = some mX8_passes from rfl) rfl (by decide) (by decide) (by decide) (by decide) zyx309e
theorem zyx310e : zrunw zprog2 (zovW []) 100000 zcut0 3 420 kX8_passes (zkinL zyx310q) 0 (zargs 0 zyx310a, [], (zyh370.1, zyh370.2.1, 0), 0, 0) = true := zall_ok zyg15_ok (k := 11) (a := zbzyx310e) rfl
theorem zyx310 {l : Launch} {D : va_G} {tys : List (ClassId × FieldType)} {o : zO} {z : Nat} (E : zEnv tys) : zKnW l D vwCl tys o z (zXX o z) zTs zprog2 zyx310d :=
  zkn_ml E (fun g => fun _ h => absurd h List.not_mem_nil) (show zget zprog2 263 = some mX8_passes from rfl) rfl (by decide) (by decide) (by decide) (by decide) zyx310e
theorem zyx311e : zrunw zprog2 (zovW []) 100000 zcut0 3 420 kX8_passes (zkinL zyx311q) 0 (zargs 0 zyx311a, [], (zyh373.1, zyh373.2.1, 0), 0, 0) = true := zall_ok zyg15_ok (k := 12) (a := zbzyx311e) rfl
theorem zyx311 {l : Launch} {D : va_G} {tys : List (ClassId × FieldType)} {o : zO} {z : Nat} (E : zEnv tys) : zKnW l D vwCl tys o z (zXX o z) zTs zprog2 zyx311d :=
  zkn_ml E (fun g => fun _ h => absurd h List.not_mem_nil) (show zget zprog2 263 = some mX8_passes from rfl) rfl (by decide) (by decide) (by decide) (by decide) zyx311e
theorem zyx312e : zrunw zprog2 (zovW []) 100000 zcut0 3 420 kX8_passes (zkinL zyx312q) 0 (zargs 0 zyx312a, [], (zyh376.1, zyh376.2.1, 0), 0, 0) = true := zall_ok zyg15_ok (k := 13) (a := zbzyx312e) rfl
theorem zyx312 {l : Launch} {D : va_G} {tys : List (ClassId × FieldType)} {o : zO} {z : Nat} (E : zEnv tys) : zKnW l D vwCl tys o z (zXX o z) zTs zprog2 zyx312d :=
  zkn_ml E (fun g => fun _ h => absurd h List.not_mem_nil) (show zget zprog2 263 = some mX8_passes from rfl) rfl (by decide) (by decide) (by decide) (by decide) zyx312e
theorem zyx313e : zrunw zprog2 (zovW []) 100000 zcut0 3 420 kX8_passes (zkinL zyx313q) 0 (zargs 0 zyx313a, [], (zyh379.1, zyh379.2.1, 0), 0, 0) = true := zall_ok zyg15_ok (k := 14) (a := zbzyx313e) rfl
theorem zyx313 {l : Launch} {D : va_G} {tys : List (ClassId × FieldType)} {o : zO} {z : Nat} (E : zEnv tys) : zKnW l D vwCl tys o z (zXX o z) zTs zprog2 zyx313d :=
  zkn_ml E (fun g => fun _ h => absurd h List.not_mem_nil) (show zget zprog2 263 = some mX8_passes from rfl) rfl (by decide) (by decide) (by decide) (by decide) zyx313e
theorem zyx314e : zrunw zprog2 (zovW []) 100000 zcut0 3 420 kX8_passes (zkinL zyx314q) 0 (zargs 0 zyx314a, [], (zyh382.1, zyh382.2.1, 0), 0, 0) = true := zall_ok zyg15_ok (k := 15) (a := zbzyx314e) rfl
theorem zyx314 {l : Launch} {D : va_G} {tys : List (ClassId × FieldType)} {o : zO} {z : Nat} (E : zEnv tys) : zKnW l D vwCl tys o z (zXX o z) zTs zprog2 zyx314d :=
  zkn_ml E (fun g => fun _ h => absurd h List.not_mem_nil) (show zget zprog2 263 = some mX8_passes from rfl) rfl (by decide) (by decide) (by decide) (by decide) zyx314e
theorem zyx315e : zrunw zprog2 (zovW []) 100000 zcut0 3 420 kX8_passes (zkinL zyx315q) 0 (zargs 0 zyx315a, [], (zyh385.1, zyh385.2.1, 0), 0, 0) = true := zall_ok zyg15_ok (k := 16) (a := zbzyx315e) rfl
theorem zyx315 {l : Launch} {D : va_G} {tys : List (ClassId × FieldType)} {o : zO} {z : Nat} (E : zEnv tys) : zKnW l D vwCl tys o z (zXX o z) zTs zprog2 zyx315d :=
  zkn_ml E (fun g => fun _ h => absurd h List.not_mem_nil) (show zget zprog2 263 = some mX8_passes from rfl) rfl (by decide) (by decide) (by decide) (by decide) zyx315e
theorem zyx316e : zrunw zprog2 (zovW []) 100000 zcut0 3 420 kX8_passes (zkinL zyx316q) 0 (zargs 0 zyx316a, [], (zyh388.1, zyh388.2.1, 0), 0, 0) = true := zall_ok zyg15_ok (k := 17) (a := zbzyx316e) rfl
theorem zyx316 {l : Launch} {D : va_G} {tys : List (ClassId × FieldType)} {o : zO} {z : Nat} (E : zEnv tys) : zKnW l D vwCl tys o z (zXX o z) zTs zprog2 zyx316d :=
  zkn_ml E (fun g => fun _ h => absurd h List.not_mem_nil) (show zget zprog2 263 = some mX8_passes from rfl) rfl (by decide) (by decide) (by decide) (by decide) zyx316e

