def zym13 : Nat := 28638903918474961204418783933674838490721739172170652529441449702311064005352904159345284265824628375429359509219000446913121156363963926024252914046098933261873561626039493592465981900767092174168366199282459011041491316128343849793292321708102909952
noncomputable def zyh1364 : zH := (126, [zyr0, zyr1, zyr2, zyr3, zyr4, zyr5, zyr6, zyr7], zym13)
noncomputable def zyc425 : zC := .inr (8, [zyv114, zyv15, zyv15, zyv15, zyv114, zyv114, zyv114, zyv114, zyv15, zyv114, zyv15, zyv15, zyv126, zyv17, zyv317, zyv35, zyv124, zyv114, zyv114, zyv114, zyv15, zyv36, zyv129, zyv114, zyv15, zyv114, zyv114, zyv15, zyv15, zyv114, zyv114, zyv114, zyv114, zyv114, zyv114, zyv114, zyv114, zyv114, zyv114, zyv15, zyv114, zyv114, zyv114, zyv114, zyv15, zyv15, zyv15, zyv15, zyv114, zyv114, zyv114])
noncomputable def zyr358 : List zC := [zyc60, zyc60, zyc60, zyc69, zyc10, zyc10, zyc10, zyc12, zyc70, zyc8, zyc8, zyc70, zyc8, zyc8, zyc425, zyc52]
noncomputable def zyh1365 : zH := (126, [zyr9, zyr10, zyr11, zyr12, zyr13, zyr358, zyr6, zyr7], 0)
noncomputable def zyh1366 : zH := (126, [zyr9, zyr10, zyr11, zyr12, zyr13, zyr358, zyr6, zyr7], zym9)
noncomputable def zyc426 : zC := .inr (8, [zyv114, zyv15, zyv15, zyv15, zyv114, zyv114, zyv114, zyv114, zyv15, zyv114, zyv15, zyv15, zyv126, zyv17, zyv317, zyv320, zyv241, zyv114, zyv114, zyv114, zyv15, zyv36, zyv129, zyv114, zyv15, zyv114, zyv114, zyv15, zyv15, zyv114, zyv114, zyv114, zyv114, zyv114, zyv114, zyv114, zyv114, zyv114, zyv114, zyv15, zyv114, zyv114, zyv114, zyv114, zyv15, zyv15, zyv15, zyv15, zyv114, zyv114, zyv114])
noncomputable def zyr359 : List zC := [zyc60, zyc60, zyc60, zyc69, zyc10, zyc10, zyc10, zyc12, zyc70, zyc8, zyc8, zyc70, zyc8, zyc8, zyc426, zyc52]
noncomputable def zyh1367 : zH := (126, [zyr9, zyr10, zyr11, zyr12, zyr13, zyr359, zyr6, zyr7], zym9)
noncomputable def zyc427 : zC := .inr (8, [zyv114, zyv15, zyv15, zyv15, zyv114, zyv114, zyv114, zyv114, zyv15, zyv114, zyv15, zyv15, zyv126, zyv17, zyv317, zyv320, zyv124, zyv114, zyv114, zyv114, zyv15, zyv36, zyv129, zyv114, zyv15, zyv114, zyv114, zyv15, zyv15, zyv114, zyv114, zyv114, zyv114, zyv114, zyv114, zyv114, zyv114, zyv114, zyv114, zyv15, zyv114, zyv114, zyv114, zyv114, zyv15, zyv15, zyv15, zyv15, zyv114, zyv114, zyv114])
noncomputable def zyr360 : List zC := [zyc60, zyc60, zyc60, zyc69, zyc10, zyc10, zyc10, zyc12, zyc70, zyc8, zyc8, zyc70, zyc8, zyc8, zyc427, zyc52]
noncomputable def zyh1368 : zH := (126, [zyr9, zyr10, zyr11, zyr12, zyr13, zyr360, zyr6, zyr7], 0)
noncomputable def zyh1369 : zH := (126, [zyr9, zyr10, zyr11, zyr12, zyr13, zyr360, zyr6, zyr7], zym9)
noncomputable def zyc428 : zC := .inr (8, [zyv114, zyv15, zyv15, zyv15, zyv114, zyv114, zyv114, zyv114, zyv15, zyv114, zyv15, zyv15, zyv126, zyv17, zyv317, zyv322, zyv241, zyv114, zyv114, zyv114, zyv15, zyv36, zyv129, zyv114, zyv15, zyv114, zyv114, zyv15, zyv15, zyv114, zyv114, zyv114, zyv114, zyv114, zyv114, zyv114, zyv114, zyv114, zyv114, zyv15, zyv114, zyv114, zyv114, zyv114, zyv15, zyv15, zyv15, zyv15, zyv114, zyv114, zyv114])
noncomputable def zyr361 : List zC := [zyc60, zyc60, zyc60, zyc69, zyc10, zyc10, zyc10, zyc12, zyc70, zyc8, zyc8, zyc70, zyc8, zyc8, zyc428, zyc52]
noncomputable def zyh1370 : zH := (126, [zyr9, zyr10, zyr11, zyr12, zyr13, zyr361, zyr6, zyr7], zym9)
noncomputable def zyc429 : zC := .inr (8, [zyv114, zyv15, zyv15, zyv15, zyv114, zyv114, zyv114, zyv114, zyv15, zyv114, zyv15, zyv15, zyv126, zyv17, zyv317, zyv322, zyv124, zyv114, zyv114, zyv114, zyv15, zyv36, zyv129, zyv114, zyv15, zyv114, zyv114, zyv15, zyv15, zyv114, zyv114, zyv114, zyv114, zyv114, zyv114, zyv114, zyv114, zyv114, zyv114, zyv15, zyv114, zyv114, zyv114, zyv114, zyv15, zyv15, zyv15, zyv15, zyv114, zyv114, zyv114])
noncomputable def zyr362 : List zC := [zyc60, zyc60, zyc60, zyc69, zyc10, zyc10, zyc10, zyc12, zyc70, zyc8, zyc8, zyc70, zyc8, zyc8, zyc429, zyc52]
noncomputable def zyh1371 : zH := (126, [zyr9, zyr10, zyr11, zyr12, zyr13, zyr362, zyr6, zyr7], 0)
noncomputable def zyh1372 : zH := (126, [zyr9, zyr10, zyr11, zyr12, zyr13, zyr362, zyr6, zyr7], zym9)
noncomputable def zyc430 : zC := .inr (8, [zyv114, zyv15, zyv15, zyv15, zyv114, zyv114, zyv114, zyv114, zyv15, zyv114, zyv15, zyv15, zyv126, zyv17, zyv317, zyv323, zyv241, zyv114, zyv114, zyv114, zyv15, zyv36, zyv129, zyv114, zyv15, zyv114, zyv114, zyv15, zyv15, zyv114, zyv114, zyv114, zyv114, zyv114, zyv114, zyv114, zyv114, zyv114, zyv114, zyv15, zyv114, zyv114, zyv114, zyv114, zyv15, zyv15, zyv15, zyv15, zyv114, zyv114, zyv114])
noncomputable def zyr363 : List zC := [zyc60, zyc60, zyc60, zyc69, zyc10, zyc10, zyc10, zyc12, zyc70, zyc8, zyc8, zyc70, zyc8, zyc8, zyc430, zyc52]
noncomputable def zyh1373 : zH := (126, [zyr9, zyr10, zyr11, zyr12, zyr13, zyr363, zyr6, zyr7], zym9)
noncomputable def zyc431 : zC := .inr (8, [zyv114, zyv15, zyv15, zyv15, zyv114, zyv114, zyv114, zyv114, zyv15, zyv114, zyv15, zyv15, zyv126, zyv17, zyv317, zyv323, zyv124, zyv114, zyv114, zyv114, zyv15, zyv36, zyv129, zyv114, zyv15, zyv114, zyv114, zyv15, zyv15, zyv114, zyv114, zyv114, zyv114, zyv114, zyv114, zyv114, zyv114, zyv114, zyv114, zyv15, zyv114, zyv114, zyv114, zyv114, zyv15, zyv15, zyv15, zyv15, zyv114, zyv114, zyv114])
noncomputable def zyr364 : List zC := [zyc60, zyc60, zyc60, zyc69, zyc10, zyc10, zyc10, zyc12, zyc70, zyc8, zyc8, zyc70, zyc8, zyc8, zyc431, zyc52]
noncomputable def zyh1374 : zH := (126, [zyr9, zyr10, zyr11, zyr12, zyr13, zyr364, zyr6, zyr7], 0)
noncomputable def zyh1375 : zH := (126, [zyr9, zyr10, zyr11, zyr12, zyr13, zyr364, zyr6, zyr7], zym9)
noncomputable def zyc432 : zC := .inr (8, [zyv114, zyv15, zyv15, zyv15, zyv114, zyv114, zyv114, zyv114, zyv15, zyv114, zyv15, zyv15, zyv126, zyv17, zyv317, zyv324, zyv241, zyv114, zyv114, zyv114, zyv15, zyv36, zyv129, zyv114, zyv15, zyv114, zyv114, zyv15, zyv15, zyv114, zyv114, zyv114, zyv114, zyv114, zyv114, zyv114, zyv114, zyv114, zyv114, zyv15, zyv114, zyv114, zyv114, zyv114, zyv15, zyv15, zyv15, zyv15, zyv114, zyv114, zyv114])
noncomputable def zyr365 : List zC := [zyc60, zyc60, zyc60, zyc69, zyc10, zyc10, zyc10, zyc12, zyc70, zyc8, zyc8, zyc70, zyc8, zyc8, zyc432, zyc52]
noncomputable def zyh1376 : zH := (126, [zyr9, zyr10, zyr11, zyr12, zyr13, zyr365, zyr6, zyr7], zym9)
noncomputable def zyc433 : zC := .inr (8, [zyv114, zyv15, zyv15, zyv15, zyv114, zyv114, zyv114, zyv114, zyv15, zyv114, zyv15, zyv15, zyv126, zyv17, zyv317, zyv324, zyv124, zyv114, zyv114, zyv114, zyv15, zyv36, zyv129, zyv114, zyv15, zyv114, zyv114, zyv15, zyv15, zyv114, zyv114, zyv114, zyv114, zyv114, zyv114, zyv114, zyv114, zyv114, zyv114, zyv15, zyv114, zyv114, zyv114, zyv114, zyv15, zyv15, zyv15, zyv15, zyv114, zyv114, zyv114])
noncomputable def zyr366 : List zC := [zyc60, zyc60, zyc60, zyc69, zyc10, zyc10, zyc10, zyc12, zyc70, zyc8, zyc8, zyc70, zyc8, zyc8, zyc433, zyc52]
noncomputable def zyh1377 : zH := (126, [zyr9, zyr10, zyr11, zyr12, zyr13, zyr366, zyr6, zyr7], 0)
noncomputable def zyh1378 : zH := (126, [zyr9, zyr10, zyr11, zyr12, zyr13, zyr366, zyr6, zyr7], zym9)
noncomputable def zyc434 : zC := .inr (8, [zyv114, zyv15, zyv15, zyv15, zyv114, zyv114, zyv114, zyv114, zyv15, zyv114, zyv15, zyv15, zyv126, zyv17, zyv317, zyv325, zyv241, zyv114, zyv114, zyv114, zyv15, zyv36, zyv129, zyv114, zyv15, zyv114, zyv114, zyv15, zyv15, zyv114, zyv114, zyv114, zyv114, zyv114, zyv114, zyv114, zyv114, zyv114, zyv114, zyv15, zyv114, zyv114, zyv114, zyv114, zyv15, zyv15, zyv15, zyv15, zyv114, zyv114, zyv114])
noncomputable def zyr367 : List zC := [zyc60, zyc60, zyc60, zyc69, zyc10, zyc10, zyc10, zyc12, zyc70, zyc8, zyc8, zyc70, zyc8, zyc8, zyc434, zyc52]
noncomputable def zyh1379 : zH := (126, [zyr9, zyr10, zyr11, zyr12, zyr13, zyr367, zyr6, zyr7], zym9)
noncomputable def zyc435 : zC := .inr (8, [zyv114, zyv15, zyv15, zyv15, zyv114, zyv114, zyv114, zyv114, zyv15, zyv114, zyv15, zyv15, zyv126, zyv17, zyv317, zyv325, zyv124, zyv114, zyv114, zyv114, zyv15, zyv36, zyv129, zyv114, zyv15, zyv114, zyv114, zyv15, zyv15, zyv114, zyv114, zyv114, zyv114, zyv114, zyv114, zyv114, zyv114, zyv114, zyv114, zyv15, zyv114, zyv114, zyv114, zyv114, zyv15, zyv15, zyv15, zyv15, zyv114, zyv114, zyv114])
noncomputable def zyr368 : List zC := [zyc60, zyc60, zyc60, zyc69, zyc10, zyc10, zyc10, zyc12, zyc70, zyc8, zyc8, zyc70, zyc8, zyc8, zyc435, zyc52]
noncomputable def zyh1380 : zH := (126, [zyr9, zyr10, zyr11, zyr12, zyr13, zyr368, zyr6, zyr7], 0)
noncomputable def zyh1381 : zH := (126, [zyr9, zyr10, zyr11, zyr12, zyr13, zyr368, zyr6, zyr7], zym9)
noncomputable def zyc436 : zC := .inr (8, [zyv114, zyv15, zyv15, zyv15, zyv114, zyv114, zyv114, zyv114, zyv15, zyv114, zyv15, zyv15, zyv126, zyv17, zyv317, zyv326, zyv241, zyv114, zyv114, zyv114, zyv15, zyv36, zyv129, zyv114, zyv15, zyv114, zyv114, zyv15, zyv15, zyv114, zyv114, zyv114, zyv114, zyv114, zyv114, zyv114, zyv114, zyv114, zyv114, zyv15, zyv114, zyv114, zyv114, zyv114, zyv15, zyv15, zyv15, zyv15, zyv114, zyv114, zyv114])
noncomputable def zyr369 : List zC := [zyc60, zyc60, zyc60, zyc69, zyc10, zyc10, zyc10, zyc12, zyc70, zyc8, zyc8, zyc70, zyc8, zyc8, zyc436, zyc52]
noncomputable def zyh1382 : zH := (126, [zyr9, zyr10, zyr11, zyr12, zyr13, zyr369, zyr6, zyr7], zym9)
noncomputable def zyc437 : zC := .inr (8, [zyv114, zyv15, zyv15, zyv15, zyv114, zyv114, zyv114, zyv114, zyv15, zyv114, zyv15, zyv15, zyv126, zyv17, zyv317, zyv326, zyv124, zyv114, zyv114, zyv114, zyv15, zyv36, zyv129, zyv114, zyv15, zyv114, zyv114, zyv15, zyv15, zyv114, zyv114, zyv114, zyv114, zyv114, zyv114, zyv114, zyv114, zyv114, zyv114, zyv15, zyv114, zyv114, zyv114, zyv114, zyv15, zyv15, zyv15, zyv15, zyv114, zyv114, zyv114])
noncomputable def zyr370 : List zC := [zyc60, zyc60, zyc60, zyc69, zyc10, zyc10, zyc10, zyc12, zyc70, zyc8, zyc8, zyc70, zyc8, zyc8, zyc437, zyc52]
noncomputable def zyh1383 : zH := (126, [zyr9, zyr10, zyr11, zyr12, zyr13, zyr370, zyr6, zyr7], 0)
noncomputable def zyh1384 : zH := (126, [zyr9, zyr10, zyr11, zyr12, zyr13, zyr370, zyr6, zyr7], zym9)
noncomputable def zyc438 : zC := .inr (8, [zyv114, zyv15, zyv15, zyv15, zyv114, zyv114, zyv114, zyv114, zyv15, zyv114, zyv15, zyv15, zyv126, zyv17, zyv317, zyv327, zyv241, zyv114, zyv114, zyv114, zyv15, zyv36, zyv129, zyv114, zyv15, zyv114, zyv114, zyv15, zyv15, zyv114, zyv114, zyv114, zyv114, zyv114, zyv114, zyv114, zyv114, zyv114, zyv114, zyv15, zyv114, zyv114, zyv114, zyv114, zyv15, zyv15, zyv15, zyv15, zyv114, zyv114, zyv114])
noncomputable def zyr371 : List zC := [zyc60, zyc60, zyc60, zyc69, zyc10, zyc10, zyc10, zyc12, zyc70, zyc8, zyc8, zyc70, zyc8, zyc8, zyc438, zyc52]
noncomputable def zyh1385 : zH := (126, [zyr9, zyr10, zyr11, zyr12, zyr13, zyr371, zyr6, zyr7], zym9)
noncomputable def zyc439 : zC := .inr (8, [zyv114, zyv15, zyv15, zyv15, zyv114, zyv114, zyv114, zyv114, zyv15, zyv114, zyv15, zyv15, zyv126, zyv17, zyv317, zyv327, zyv124, zyv114, zyv114, zyv114, zyv15, zyv36, zyv129, zyv114, zyv15, zyv114, zyv114, zyv15, zyv15, zyv114, zyv114, zyv114, zyv114, zyv114, zyv114, zyv114, zyv114, zyv114, zyv114, zyv15, zyv114, zyv114, zyv114, zyv114, zyv15, zyv15, zyv15, zyv15, zyv114, zyv114, zyv114])
noncomputable def zyr372 : List zC := [zyc60, zyc60, zyc60, zyc69, zyc10, zyc10, zyc10, zyc12, zyc70, zyc8, zyc8, zyc70, zyc8, zyc8, zyc439, zyc52]
noncomputable def zyh1386 : zH := (126, [zyr9, zyr10, zyr11, zyr12, zyr13, zyr372, zyr6, zyr7], 0)
noncomputable def zyh1387 : zH := (126, [zyr9, zyr10, zyr11, zyr12, zyr13, zyr372, zyr6, zyr7], zym9)
noncomputable def zyc440 : zC := .inr (8, [zyv114, zyv15, zyv15, zyv15, zyv114, zyv114, zyv114, zyv114, zyv15, zyv114, zyv15, zyv15, zyv126, zyv17, zyv317, zyv328, zyv241, zyv114, zyv114, zyv114, zyv15, zyv36, zyv129, zyv114, zyv15, zyv114, zyv114, zyv15, zyv15, zyv114, zyv114, zyv114, zyv114, zyv114, zyv114, zyv114, zyv114, zyv114, zyv114, zyv15, zyv114, zyv114, zyv114, zyv114, zyv15, zyv15, zyv15, zyv15, zyv114, zyv114, zyv114])
noncomputable def zyr373 : List zC := [zyc60, zyc60, zyc60, zyc69, zyc10, zyc10, zyc10, zyc12, zyc70, zyc8, zyc8, zyc70, zyc8, zyc8, zyc440, zyc52]
noncomputable def zyh1388 : zH := (126, [zyr9, zyr10, zyr11, zyr12, zyr13, zyr373, zyr6, zyr7], zym9)
noncomputable def zyc441 : zC := .inr (8, [zyv114, zyv15, zyv15, zyv15, zyv114, zyv114, zyv114, zyv114, zyv15, zyv114, zyv15, zyv15, zyv126, zyv17, zyv317, zyv328, zyv124, zyv114, zyv114, zyv114, zyv15, zyv36, zyv129, zyv114, zyv15, zyv114, zyv114, zyv15, zyv15, zyv114, zyv114, zyv114, zyv114, zyv114, zyv114, zyv114, zyv114, zyv114, zyv114, zyv15, zyv114, zyv114, zyv114, zyv114, zyv15, zyv15, zyv15, zyv15, zyv114, zyv114, zyv114])
noncomputable def zyr374 : List zC := [zyc60, zyc60, zyc60, zyc69, zyc10, zyc10, zyc10, zyc12, zyc70, zyc8, zyc8, zyc70, zyc8, zyc8, zyc441, zyc52]
noncomputable def zyh1389 : zH := (126, [zyr9, zyr10, zyr11, zyr12, zyr13, zyr374, zyr6, zyr7], 0)
noncomputable def zyh1390 : zH := (126, [zyr9, zyr10, zyr11, zyr12, zyr13, zyr374, zyr6, zyr7], zym9)
noncomputable def zyc442 : zC := .inr (8, [zyv114, zyv15, zyv15, zyv15, zyv114, zyv114, zyv114, zyv114, zyv15, zyv114, zyv15, zyv15, zyv126, zyv17, zyv317, zyv329, zyv241, zyv114, zyv114, zyv114, zyv15, zyv36, zyv129, zyv114, zyv15, zyv114, zyv114, zyv15, zyv15, zyv114, zyv114, zyv114, zyv114, zyv114, zyv114, zyv114, zyv114, zyv114, zyv114, zyv15, zyv114, zyv114, zyv114, zyv114, zyv15, zyv15, zyv15, zyv15, zyv114, zyv114, zyv114])
noncomputable def zyr375 : List zC := [zyc60, zyc60, zyc60, zyc69, zyc10, zyc10, zyc10, zyc12, zyc70, zyc8, zyc8, zyc70, zyc8, zyc8, zyc442, zyc52]
noncomputable def zyh1391 : zH := (126, [zyr9, zyr10, zyr11, zyr12, zyr13, zyr375, zyr6, zyr7], zym9)
noncomputable def zyc443 : zC := .inr (8, [zyv114, zyv15, zyv15, zyv15, zyv114, zyv114, zyv114, zyv114, zyv15, zyv114, zyv15, zyv15, zyv126, zyv17, zyv317, zyv329, zyv124, zyv114, zyv114, zyv114, zyv15, zyv36, zyv129, zyv114, zyv15, zyv114, zyv114, zyv15, zyv15, zyv114, zyv114, zyv114, zyv114, zyv114, zyv114, zyv114, zyv114, zyv114, zyv114, zyv15, zyv114, zyv114, zyv114, zyv114, zyv15, zyv15, zyv15, zyv15, zyv114, zyv114, zyv114])
noncomputable def zyr376 : List zC := [zyc60, zyc60, zyc60, zyc69, zyc10, zyc10, zyc10, zyc12, zyc70, zyc8, zyc8, zyc70, zyc8, zyc8, zyc443, zyc52]
noncomputable def zyh1392 : zH := (126, [zyr9, zyr10, zyr11, zyr12, zyr13, zyr376, zyr6, zyr7], 0)
noncomputable def zyh1393 : zH := (126, [zyr9, zyr10, zyr11, zyr12, zyr13, zyr376, zyr6, zyr7], zym9)
noncomputable def zyc444 : zC := .inr (8, [zyv114, zyv15, zyv15, zyv15, zyv114, zyv114, zyv114, zyv114, zyv15, zyv114, zyv15, zyv15, zyv126, zyv17, zyv317, zyv330, zyv241, zyv114, zyv114, zyv114, zyv15, zyv36, zyv129, zyv114, zyv15, zyv114, zyv114, zyv15, zyv15, zyv114, zyv114, zyv114, zyv114, zyv114, zyv114, zyv114, zyv114, zyv114, zyv114, zyv15, zyv114, zyv114, zyv114, zyv114, zyv15, zyv15, zyv15, zyv15, zyv114, zyv114, zyv114])
noncomputable def zyr377 : List zC := [zyc60, zyc60, zyc60, zyc69, zyc10, zyc10, zyc10, zyc12, zyc70, zyc8, zyc8, zyc70, zyc8, zyc8, zyc444, zyc52]
noncomputable def zyh1394 : zH := (126, [zyr9, zyr10, zyr11, zyr12, zyr13, zyr377, zyr6, zyr7], zym9)
noncomputable def zyc445 : zC := .inr (8, [zyv114, zyv15, zyv15, zyv15, zyv114, zyv114, zyv114, zyv114, zyv15, zyv114, zyv15, zyv15, zyv126, zyv17, zyv317, zyv331, zyv124, zyv114, zyv114, zyv114, zyv15, zyv36, zyv129, zyv114, zyv15, zyv114, zyv114, zyv15, zyv15, zyv114, zyv114, zyv114, zyv114, zyv114, zyv114, zyv114, zyv114, zyv114, zyv114, zyv15, zyv114, zyv114, zyv114, zyv114, zyv15, zyv15, zyv15, zyv15, zyv114, zyv114, zyv114])
noncomputable def zyr378 : List zC := [zyc60, zyc60, zyc60, zyc69, zyc10, zyc10, zyc10, zyc12, zyc70, zyc8, zyc8, zyc70, zyc8, zyc8, zyc445, zyc52]
noncomputable def zyh1395 : zH := (126, [zyr9, zyr10, zyr11, zyr12, zyr13, zyr378, zyr6, zyr7], 0)
noncomputable def zyh1396 : zH := (126, [zyr9, zyr10, zyr11, zyr12, zyr13, zyr378, zyr6, zyr7], zym9)
noncomputable def zyc446 : zC := .inr (8, [zyv114, zyv15, zyv15, zyv15, zyv114, zyv114, zyv114, zyv114, zyv15, zyv114, zyv15, zyv15, zyv126, zyv17, zyv317, zyv332, zyv241, zyv114, zyv114, zyv114, zyv15, zyv36, zyv129, zyv114, zyv15, zyv114, zyv114, zyv15, zyv15, zyv114, zyv114, zyv114, zyv114, zyv114, zyv114, zyv114, zyv114, zyv114, zyv114, zyv15, zyv114, zyv114, zyv114, zyv114, zyv15, zyv15, zyv15, zyv15, zyv114, zyv114, zyv114])
noncomputable def zyr379 : List zC := [zyc60, zyc60, zyc60, zyc69, zyc10, zyc10, zyc10, zyc12, zyc70, zyc8, zyc8, zyc70, zyc8, zyc8, zyc446, zyc52]
noncomputable def zyh1397 : zH := (126, [zyr9, zyr10, zyr11, zyr12, zyr13, zyr379, zyr6, zyr7], zym9)
noncomputable def zyc447 : zC := .inr (8, [zyv114, zyv15, zyv15, zyv15, zyv114, zyv114, zyv114, zyv114, zyv15, zyv114, zyv15, zyv15, zyv126, zyv17, zyv317, zyv332, zyv124, zyv114, zyv114, zyv114, zyv15, zyv36, zyv129, zyv114, zyv15, zyv114, zyv114, zyv15, zyv15, zyv114, zyv114, zyv114, zyv114, zyv114, zyv114, zyv114, zyv114, zyv114, zyv114, zyv15, zyv114, zyv114, zyv114, zyv114, zyv15, zyv15, zyv15, zyv15, zyv114, zyv114, zyv114])
noncomputable def zyr380 : List zC := [zyc60, zyc60, zyc60, zyc69, zyc10, zyc10, zyc10, zyc12, zyc70, zyc8, zyc8, zyc70, zyc8, zyc8, zyc447, zyc52]
noncomputable def zyh1398 : zH := (126, [zyr9, zyr10, zyr11, zyr12, zyr13, zyr380, zyr6, zyr7], 0)
noncomputable def zyh1399 : zH := (126, [zyr9, zyr10, zyr11, zyr12, zyr13, zyr380, zyr6, zyr7], zym9)
noncomputable def zyc448 : zC := .inr (8, [zyv114, zyv15, zyv15, zyv15, zyv114, zyv114, zyv114, zyv114, zyv15, zyv114, zyv15, zyv15, zyv126, zyv17, zyv317, zyv333, zyv241, zyv114, zyv114, zyv114, zyv15, zyv36, zyv129, zyv114, zyv15, zyv114, zyv114, zyv15, zyv15, zyv114, zyv114, zyv114, zyv114, zyv114, zyv114, zyv114, zyv114, zyv114, zyv114, zyv15, zyv114, zyv114, zyv114, zyv114, zyv15, zyv15, zyv15, zyv15, zyv114, zyv114, zyv114])
noncomputable def zyr381 : List zC := [zyc60, zyc60, zyc60, zyc69, zyc10, zyc10, zyc10, zyc12, zyc70, zyc8, zyc8, zyc70, zyc8, zyc8, zyc448, zyc52]
noncomputable def zyh1400 : zH := (126, [zyr9, zyr10, zyr11, zyr12, zyr13, zyr381, zyr6, zyr7], zym9)
noncomputable def zyc449 : zC := .inr (8, [zyv114, zyv15, zyv15, zyv15, zyv114, zyv114, zyv114, zyv114, zyv15, zyv114, zyv15, zyv15, zyv126, zyv17, zyv317, zyv333, zyv124, zyv114, zyv114, zyv114, zyv15, zyv36, zyv129, zyv114, zyv15, zyv114, zyv114, zyv15, zyv15, zyv114, zyv114, zyv114, zyv114, zyv114, zyv114, zyv114, zyv114, zyv114, zyv114, zyv15, zyv114, zyv114, zyv114, zyv114, zyv15, zyv15, zyv15, zyv15, zyv114, zyv114, zyv114])
noncomputable def zyr382 : List zC := [zyc60, zyc60, zyc60, zyc69, zyc10, zyc10, zyc10, zyc12, zyc70, zyc8, zyc8, zyc70, zyc8, zyc8, zyc449, zyc52]
noncomputable def zyh1401 : zH := (126, [zyr9, zyr10, zyr11, zyr12, zyr13, zyr382, zyr6, zyr7], 0)
noncomputable def zyh1402 : zH := (126, [zyr9, zyr10, zyr11, zyr12, zyr13, zyr382, zyr6, zyr7], zym9)
noncomputable def zyc450 : zC := .inr (8, [zyv114, zyv15, zyv15, zyv15, zyv114, zyv114, zyv114, zyv114, zyv15, zyv114, zyv15, zyv15, zyv126, zyv17, zyv317, zyv334, zyv241, zyv114, zyv114, zyv114, zyv15, zyv36, zyv129, zyv114, zyv15, zyv114, zyv114, zyv15, zyv15, zyv114, zyv114, zyv114, zyv114, zyv114, zyv114, zyv114, zyv114, zyv114, zyv114, zyv15, zyv114, zyv114, zyv114, zyv114, zyv15, zyv15, zyv15, zyv15, zyv114, zyv114, zyv114])
noncomputable def zyr383 : List zC := [zyc60, zyc60, zyc60, zyc69, zyc10, zyc10, zyc10, zyc12, zyc70, zyc8, zyc8, zyc70, zyc8, zyc8, zyc450, zyc52]
noncomputable def zyh1403 : zH := (126, [zyr9, zyr10, zyr11, zyr12, zyr13, zyr383, zyr6, zyr7], zym9)
noncomputable def zyc451 : zC := .inr (8, [zyv114, zyv15, zyv15, zyv15, zyv114, zyv114, zyv114, zyv114, zyv15, zyv114, zyv15, zyv15, zyv126, zyv17, zyv317, zyv334, zyv124, zyv114, zyv114, zyv114, zyv15, zyv36, zyv129, zyv114, zyv15, zyv114, zyv114, zyv15, zyv15, zyv114, zyv114, zyv114, zyv114, zyv114, zyv114, zyv114, zyv114, zyv114, zyv114, zyv15, zyv114, zyv114, zyv114, zyv114, zyv15, zyv15, zyv15, zyv15, zyv114, zyv114, zyv114])
noncomputable def zyr384 : List zC := [zyc60, zyc60, zyc60, zyc69, zyc10, zyc10, zyc10, zyc12, zyc70, zyc8, zyc8, zyc70, zyc8, zyc8, zyc451, zyc52]
noncomputable def zyh1404 : zH := (126, [zyr9, zyr10, zyr11, zyr12, zyr13, zyr384, zyr6, zyr7], 0)
noncomputable def zyh1405 : zH := (126, [zyr9, zyr10, zyr11, zyr12, zyr13, zyr384, zyr6, zyr7], zym9)
noncomputable def zyc452 : zC := .inr (8, [zyv114, zyv15, zyv15, zyv15, zyv114, zyv114, zyv114, zyv114, zyv15, zyv114, zyv15, zyv15, zyv126, zyv17, zyv317, zyv335, zyv241, zyv114, zyv114, zyv114, zyv15, zyv36, zyv129, zyv114, zyv15, zyv114, zyv114, zyv15, zyv15, zyv114, zyv114, zyv114, zyv114, zyv114, zyv114, zyv114, zyv114, zyv114, zyv114, zyv15, zyv114, zyv114, zyv114, zyv114, zyv15, zyv15, zyv15, zyv15, zyv114, zyv114, zyv114])
noncomputable def zyr385 : List zC := [zyc60, zyc60, zyc60, zyc69, zyc10, zyc10, zyc10, zyc12, zyc70, zyc8, zyc8, zyc70, zyc8, zyc8, zyc452, zyc52]
noncomputable def zyh1406 : zH := (126, [zyr9, zyr10, zyr11, zyr12, zyr13, zyr385, zyr6, zyr7], zym9)
noncomputable def zyc453 : zC := .inr (8, [zyv114, zyv15, zyv15, zyv15, zyv114, zyv114, zyv114, zyv114, zyv15, zyv114, zyv15, zyv15, zyv126, zyv17, zyv317, zyv335, zyv124, zyv114, zyv114, zyv114, zyv15, zyv36, zyv129, zyv114, zyv15, zyv114, zyv114, zyv15, zyv15, zyv114, zyv114, zyv114, zyv114, zyv114, zyv114, zyv114, zyv114, zyv114, zyv114, zyv15, zyv114, zyv114, zyv114, zyv114, zyv15, zyv15, zyv15, zyv15, zyv114, zyv114, zyv114])
noncomputable def zyr386 : List zC := [zyc60, zyc60, zyc60, zyc69, zyc10, zyc10, zyc10, zyc12, zyc70, zyc8, zyc8, zyc70, zyc8, zyc8, zyc453, zyc52]
noncomputable def zyh1407 : zH := (126, [zyr9, zyr10, zyr11, zyr12, zyr13, zyr386, zyr6, zyr7], 0)
noncomputable def zyh1408 : zH := (126, [zyr9, zyr10, zyr11, zyr12, zyr13, zyr386, zyr6, zyr7], zym9)
noncomputable def zyc454 : zC := .inr (8, [zyv114, zyv15, zyv15, zyv15, zyv114, zyv114, zyv114, zyv114, zyv15, zyv114, zyv15, zyv15, zyv126, zyv17, zyv317, zyv336, zyv241, zyv114, zyv114, zyv114, zyv15, zyv36, zyv129, zyv114, zyv15, zyv114, zyv114, zyv15, zyv15, zyv114, zyv114, zyv114, zyv114, zyv114, zyv114, zyv114, zyv114, zyv114, zyv114, zyv15, zyv114, zyv114, zyv114, zyv114, zyv15, zyv15, zyv15, zyv15, zyv114, zyv114, zyv114])
noncomputable def zyr387 : List zC := [zyc60, zyc60, zyc60, zyc69, zyc10, zyc10, zyc10, zyc12, zyc70, zyc8, zyc8, zyc70, zyc8, zyc8, zyc454, zyc52]
noncomputable def zyh1409 : zH := (126, [zyr9, zyr10, zyr11, zyr12, zyr13, zyr387, zyr6, zyr7], zym9)
noncomputable def zyc455 : zC := .inr (8, [zyv114, zyv15, zyv15, zyv15, zyv114, zyv114, zyv114, zyv114, zyv15, zyv114, zyv15, zyv15, zyv126, zyv17, zyv317, zyv336, zyv124, zyv114, zyv114, zyv114, zyv15, zyv36, zyv129, zyv114, zyv15, zyv114, zyv114, zyv15, zyv15, zyv114, zyv114, zyv114, zyv114, zyv114, zyv114, zyv114, zyv114, zyv114, zyv114, zyv15, zyv114, zyv114, zyv114, zyv114, zyv15, zyv15, zyv15, zyv15, zyv114, zyv114, zyv114])
noncomputable def zyr388 : List zC := [zyc60, zyc60, zyc60, zyc69, zyc10, zyc10, zyc10, zyc12, zyc70, zyc8, zyc8, zyc70, zyc8, zyc8, zyc455, zyc52]
noncomputable def zyh1410 : zH := (126, [zyr9, zyr10, zyr11, zyr12, zyr13, zyr388, zyr6, zyr7], 0)
noncomputable def zyh1411 : zH := (126, [zyr9, zyr10, zyr11, zyr12, zyr13, zyr388, zyr6, zyr7], zym9)
noncomputable def zyc456 : zC := .inr (8, [zyv114, zyv15, zyv15, zyv15, zyv114, zyv114, zyv114, zyv114, zyv15, zyv114, zyv15, zyv15, zyv126, zyv17, zyv317, zyv337, zyv241, zyv114, zyv114, zyv114, zyv15, zyv36, zyv129, zyv114, zyv15, zyv114, zyv114, zyv15, zyv15, zyv114, zyv114, zyv114, zyv114, zyv114, zyv114, zyv114, zyv114, zyv114, zyv114, zyv15, zyv114, zyv114, zyv114, zyv114, zyv15, zyv15, zyv15, zyv15, zyv114, zyv114, zyv114])
noncomputable def zyr389 : List zC := [zyc60, zyc60, zyc60, zyc69, zyc10, zyc10, zyc10, zyc12, zyc70, zyc8, zyc8, zyc70, zyc8, zyc8, zyc456, zyc52]
noncomputable def zyh1412 : zH := (126, [zyr9, zyr10, zyr11, zyr12, zyr13, zyr389, zyr6, zyr7], zym9)
/-! X7_hard -/
noncomputable def zyx306a : List zAV := [.inr (.inr (.inl 0)), .inl ((.negSucc 2147483647, .ofNat 2147483647), none), .inl ((.negSucc 2147483647, .ofNat 2147483647), none)]
def zyx306r : Option zAV := some (.inl ((.negSucc 0, .ofNat 999), none))
noncomputable def zyx306d : zKw := (128, 3, 6, 660, zyx306a, zyh0, [(zyx306r, zyh1364)])
noncomputable def zbzyx306e : Bool := zrunw zprog2 (zovW [zyx305d, zyx304d]) 100000 (zcutW [] none ((zyx306r, zyh1364), 6, 660) []) 6 660 k2X7_hard (zkin zyx306r zyh1364) 0 (zargs 0 zyx306a, [], (zyh0.1, zyh0.2.1, 0), 0, 0)
/-! J6_bitCount_0f7a4 -/
noncomputable def zyx307a : List zAV := [.inl ((.negSucc 2147483647, .ofNat 2147483647), none)]
def zyx307r : Option zAV := some (.inl ((.ofNat 0, .ofNat 63), none))
noncomputable def zyx307d : zKw := (14, 1, 2, 300, zyx307a, zyh1362, [(zyx307r, zyh1362)])
noncomputable def zbzyx307e : Bool := zrunw zprog2 (zovW []) 100000 (zcutW [] none ((zyx307r, zyh1362), 2, 300) []) 2 300 k2J6_bitCount_0f7a4 (zkin zyx307r zyh1362) 0 (zargs 0 zyx307a, [], (zyh1362.1, zyh1362.2.1, 0), 0, 0)
/-! X8_passes -/
noncomputable def zyx308a : List zAV := [zyv318, zyv319]
noncomputable def zyx308q : List (Option zAV × zH) := [(some (.inl ((.ofNat 0, .ofNat 0), none)), zyh1366), (some (.inl ((.ofNat 1, .ofNat 1), none)), zyh1367)]
noncomputable def zyx308d : zKw := (263, 2, 3, 420, zyx308a, zyh1365, zyx308q)
noncomputable def zbzyx308e : Bool := zrunw zprog2 (zovW []) 100000 zcut0 3 420 kX8_passes (zkinL zyx308q) 0 (zargs 0 zyx308a, [], (zyh1365.1, zyh1365.2.1, 0), 0, 0)
/-! X8_passes -/
noncomputable def zyx309a : List zAV := [zyv318, zyv321]
noncomputable def zyx309q : List (Option zAV × zH) := [(some (.inl ((.ofNat 0, .ofNat 0), none)), zyh1369), (some (.inl ((.ofNat 1, .ofNat 1), none)), zyh1370)]
noncomputable def zyx309d : zKw := (263, 2, 3, 420, zyx309a, zyh1368, zyx309q)
noncomputable def zbzyx309e : Bool := zrunw zprog2 (zovW []) 100000 zcut0 3 420 kX8_passes (zkinL zyx309q) 0 (zargs 0 zyx309a, [], (zyh1368.1, zyh1368.2.1, 0), 0, 0)
/-! X8_passes -/
noncomputable def zyx310a : List zAV := [zyv318, zyv321]
noncomputable def zyx310q : List (Option zAV × zH) := [(some (.inl ((.ofNat 0, .ofNat 0), none)), zyh1372), (some (.inl ((.ofNat 1, .ofNat 1), none)), zyh1373)]
noncomputable def zyx310d : zKw := (263, 2, 3, 420, zyx310a, zyh1371, zyx310q)
noncomputable def zbzyx310e : Bool := zrunw zprog2 (zovW []) 100000 zcut0 3 420 kX8_passes (zkinL zyx310q) 0 (zargs 0 zyx310a, [], (zyh1371.1, zyh1371.2.1, 0), 0, 0)
/-! X8_passes -/
noncomputable def zyx311a : List zAV := [zyv318, zyv321]
noncomputable def zyx311q : List (Option zAV × zH) := [(some (.inl ((.ofNat 0, .ofNat 0), none)), zyh1375), (some (.inl ((.ofNat 1, .ofNat 1), none)), zyh1376)]
noncomputable def zyx311d : zKw := (263, 2, 3, 420, zyx311a, zyh1374, zyx311q)
noncomputable def zbzyx311e : Bool := zrunw zprog2 (zovW []) 100000 zcut0 3 420 kX8_passes (zkinL zyx311q) 0 (zargs 0 zyx311a, [], (zyh1374.1, zyh1374.2.1, 0), 0, 0)
/-! X8_passes -/
noncomputable def zyx312a : List zAV := [zyv318, zyv321]
noncomputable def zyx312q : List (Option zAV × zH) := [(some (.inl ((.ofNat 0, .ofNat 0), none)), zyh1378), (some (.inl ((.ofNat 1, .ofNat 1), none)), zyh1379)]
noncomputable def zyx312d : zKw := (263, 2, 3, 420, zyx312a, zyh1377, zyx312q)
noncomputable def zbzyx312e : Bool := zrunw zprog2 (zovW []) 100000 zcut0 3 420 kX8_passes (zkinL zyx312q) 0 (zargs 0 zyx312a, [], (zyh1377.1, zyh1377.2.1, 0), 0, 0)
/-! X8_passes -/
noncomputable def zyx313a : List zAV := [zyv318, zyv321]
noncomputable def zyx313q : List (Option zAV × zH) := [(some (.inl ((.ofNat 0, .ofNat 0), none)), zyh1381), (some (.inl ((.ofNat 1, .ofNat 1), none)), zyh1382)]
noncomputable def zyx313d : zKw := (263, 2, 3, 420, zyx313a, zyh1380, zyx313q)
noncomputable def zbzyx313e : Bool := zrunw zprog2 (zovW []) 100000 zcut0 3 420 kX8_passes (zkinL zyx313q) 0 (zargs 0 zyx313a, [], (zyh1380.1, zyh1380.2.1, 0), 0, 0)
/-! X8_passes -/
noncomputable def zyx314a : List zAV := [zyv318, zyv321]
noncomputable def zyx314q : List (Option zAV × zH) := [(some (.inl ((.ofNat 0, .ofNat 0), none)), zyh1384), (some (.inl ((.ofNat 1, .ofNat 1), none)), zyh1385)]
noncomputable def zyx314d : zKw := (263, 2, 3, 420, zyx314a, zyh1383, zyx314q)
noncomputable def zbzyx314e : Bool := zrunw zprog2 (zovW []) 100000 zcut0 3 420 kX8_passes (zkinL zyx314q) 0 (zargs 0 zyx314a, [], (zyh1383.1, zyh1383.2.1, 0), 0, 0)
/-! X8_passes -/
noncomputable def zyx315a : List zAV := [zyv318, zyv321]
noncomputable def zyx315q : List (Option zAV × zH) := [(some (.inl ((.ofNat 0, .ofNat 0), none)), zyh1387), (some (.inl ((.ofNat 1, .ofNat 1), none)), zyh1388)]
noncomputable def zyx315d : zKw := (263, 2, 3, 420, zyx315a, zyh1386, zyx315q)
noncomputable def zbzyx315e : Bool := zrunw zprog2 (zovW []) 100000 zcut0 3 420 kX8_passes (zkinL zyx315q) 0 (zargs 0 zyx315a, [], (zyh1386.1, zyh1386.2.1, 0), 0, 0)
/-! X8_passes -/
noncomputable def zyx316a : List zAV := [zyv318, zyv321]
noncomputable def zyx316q : List (Option zAV × zH) := [(some (.inl ((.ofNat 0, .ofNat 0), none)), zyh1390), (some (.inl ((.ofNat 1, .ofNat 1), none)), zyh1391)]
noncomputable def zyx316d : zKw := (263, 2, 3, 420, zyx316a, zyh1389, zyx316q)
noncomputable def zbzyx316e : Bool := zrunw zprog2 (zovW []) 100000 zcut0 3 420 kX8_passes (zkinL zyx316q) 0 (zargs 0 zyx316a, [], (zyh1389.1, zyh1389.2.1, 0), 0, 0)
/-! X8_passes -/
noncomputable def zyx317a : List zAV := [zyv318, zyv321]
noncomputable def zyx317q : List (Option zAV × zH) := [(some (.inl ((.ofNat 0, .ofNat 0), none)), zyh1393), (some (.inl ((.ofNat 1, .ofNat 1), none)), zyh1394)]
noncomputable def zyx317d : zKw := (263, 2, 3, 420, zyx317a, zyh1392, zyx317q)
noncomputable def zbzyx317e : Bool := zrunw zprog2 (zovW []) 100000 zcut0 3 420 kX8_passes (zkinL zyx317q) 0 (zargs 0 zyx317a, [], (zyh1392.1, zyh1392.2.1, 0), 0, 0)
/-! X8_passes -/
noncomputable def zyx318a : List zAV := [zyv318, zyv321]
noncomputable def zyx318q : List (Option zAV × zH) := [(some (.inl ((.ofNat 0, .ofNat 0), none)), zyh1396), (some (.inl ((.ofNat 1, .ofNat 1), none)), zyh1397)]
noncomputable def zyx318d : zKw := (263, 2, 3, 420, zyx318a, zyh1395, zyx318q)
noncomputable def zbzyx318e : Bool := zrunw zprog2 (zovW []) 100000 zcut0 3 420 kX8_passes (zkinL zyx318q) 0 (zargs 0 zyx318a, [], (zyh1395.1, zyh1395.2.1, 0), 0, 0)
/-! X8_passes -/
noncomputable def zyx319a : List zAV := [zyv318, zyv321]
noncomputable def zyx319q : List (Option zAV × zH) := [(some (.inl ((.ofNat 0, .ofNat 0), none)), zyh1399), (some (.inl ((.ofNat 1, .ofNat 1), none)), zyh1400)]
noncomputable def zyx319d : zKw := (263, 2, 3, 420, zyx319a, zyh1398, zyx319q)
noncomputable def zbzyx319e : Bool := zrunw zprog2 (zovW []) 100000 zcut0 3 420 kX8_passes (zkinL zyx319q) 0 (zargs 0 zyx319a, [], (zyh1398.1, zyh1398.2.1, 0), 0, 0)
/-! X8_passes -/
noncomputable def zyx320a : List zAV := [zyv318, zyv321]
noncomputable def zyx320q : List (Option zAV × zH) := [(some (.inl ((.ofNat 0, .ofNat 0), none)), zyh1402), (some (.inl ((.ofNat 1, .ofNat 1), none)), zyh1403)]
noncomputable def zyx320d : zKw := (263, 2, 3, 420, zyx320a, zyh1401, zyx320q)
noncomputable def zbzyx320e : Bool := zrunw zprog2 (zovW []) 100000 zcut0 3 420 kX8_passes (zkinL zyx320q) 0 (zargs 0 zyx320a, [], (zyh1401.1, zyh1401.2.1, 0), 0, 0)
/-! X8_passes -/
noncomputable def zyx321a : List zAV := [zyv318, zyv321]
noncomputable def zyx321q : List (Option zAV × zH) := [(some (.inl ((.ofNat 0, .ofNat 0), none)), zyh1405), (some (.inl ((.ofNat 1, .ofNat 1), none)), zyh1406)]
noncomputable def zyx321d : zKw := (263, 2, 3, 420, zyx321a, zyh1404, zyx321q)
noncomputable def zbzyx321e : Bool := zrunw zprog2 (zovW []) 100000 zcut0 3 420 kX8_passes (zkinL zyx321q) 0 (zargs 0 zyx321a, [], (zyh1404.1, zyh1404.2.1, 0), 0, 0)
/-! X8_passes -/
noncomputable def zyx322a : List zAV := [zyv318, zyv321]
noncomputable def zyx322q : List (Option zAV × zH) := [(some (.inl ((.ofNat 0, .ofNat 0), none)), zyh1408), (some (.inl ((.ofNat 1, .ofNat 1), none)), zyh1409)]
noncomputable def zyx322d : zKw := (263, 2, 3, 420, zyx322a, zyh1407, zyx322q)
noncomputable def zbzyx322e : Bool := zrunw zprog2 (zovW []) 100000 zcut0 3 420 kX8_passes (zkinL zyx322q) 0 (zargs 0 zyx322a, [], (zyh1407.1, zyh1407.2.1, 0), 0, 0)
/-! X8_passes -/
noncomputable def zyx323a : List zAV := [zyv318, zyv321]
noncomputable def zyx323q : List (Option zAV × zH) := [(some (.inl ((.ofNat 0, .ofNat 0), none)), zyh1411), (some (.inl ((.ofNat 1, .ofNat 1), none)), zyh1412)]
noncomputable def zyx323d : zKw := (263, 2, 3, 420, zyx323a, zyh1410, zyx323q)
noncomputable def zbzyx323e : Bool := zrunw zprog2 (zovW []) 100000 zcut0 3 420 kX8_passes (zkinL zyx323q) 0 (zargs 0 zyx323a, [], (zyh1410.1, zyh1410.2.1, 0), 0, 0)
noncomputable def zyg22 : List Bool := [zbzyx306e, zbzyx307e, zbzyx308e, zbzyx309e, zbzyx310e, zbzyx311e, zbzyx312e, zbzyx313e, zbzyx314e, zbzyx315e, zbzyx316e, zbzyx317e, zbzyx318e, zbzyx319e, zbzyx320e, zbzyx321e, zbzyx322e, zbzyx323e]
set_option maxRecDepth 100000 in
theorem zyg22_ok : zall (fun b => b) zyg22 = true := by decide +kernel
theorem zyx306e : zrunw zprog2 (zovW [zyx305d, zyx304d]) 100000 (zcutW [] none ((zyx306r, zyh1364), 6, 660) []) 6 660 k2X7_hard (zkin zyx306r zyh1364) 0 (zargs 0 zyx306a, [], (zyh0.1, zyh0.2.1, 0), 0, 0) = true := zall_ok zyg22_ok (k := 0) (a := zbzyx306e) rfl
theorem zyx306 {l : Launch} {D : va_G} {tys : List (ClassId × FieldType)} {o : zO} {z : Nat} (E : zEnv tys) : zKnW l D vwCl tys o z (zXX o z) zTs zprog2 zyx306d :=
  zkn_mk E (fun g => List.forall_mem_cons.mpr ⟨zyx305 (o := zwith o g) E, List.forall_mem_cons.mpr ⟨zyx304 (o := zwith o g) E, fun _ h => absurd h List.not_mem_nil⟩⟩) (show zget zprog2 128 = some m2X7_hard from rfl) rfl (by decide) (by decide) (by decide) (by decide) (G := []) (fun _ h => absurd h List.not_mem_nil) zyx306e
theorem zyx307e : zrunw zprog2 (zovW []) 100000 (zcutW [] none ((zyx307r, zyh1362), 2, 300) []) 2 300 k2J6_bitCount_0f7a4 (zkin zyx307r zyh1362) 0 (zargs 0 zyx307a, [], (zyh1362.1, zyh1362.2.1, 0), 0, 0) = true := zall_ok zyg22_ok (k := 1) (a := zbzyx307e) rfl
theorem zyx307 {l : Launch} {D : va_G} {tys : List (ClassId × FieldType)} {o : zO} {z : Nat} (E : zEnv tys) : zKnW l D vwCl tys o z (zXX o z) zTs zprog2 zyx307d :=
  zkn_mk E (fun g => fun _ h => absurd h List.not_mem_nil) (show zget zprog2 14 = some m2J6_bitCount_0f7a4 from rfl) rfl (by decide) (by decide) (by decide) (by decide) (G := []) (fun _ h => absurd h List.not_mem_nil) zyx307e
theorem zyx308e : zrunw zprog2 (zovW []) 100000 zcut0 3 420 kX8_passes (zkinL zyx308q) 0 (zargs 0 zyx308a, [], (zyh1365.1, zyh1365.2.1, 0), 0, 0) = true := zall_ok zyg22_ok (k := 2) (a := zbzyx308e) rfl
theorem zyx308 {l : Launch} {D : va_G} {tys : List (ClassId × FieldType)} {o : zO} {z : Nat} (E : zEnv tys) : zKnW l D vwCl tys o z (zXX o z) zTs zprog2 zyx308d :=
  zkn_ml E (fun g => fun _ h => absurd h List.not_mem_nil) (show zget zprog2 263 = some mX8_passes from rfl) rfl (by decide) (by decide) (by decide) (by decide) zyx308e
theorem zyx309e : zrunw zprog2 (zovW []) 100000 zcut0 3 420 kX8_passes (zkinL zyx309q) 0 (zargs 0 zyx309a, [], (zyh1368.1, zyh1368.2.1, 0), 0, 0) = true := zall_ok zyg22_ok (k := 3) (a := zbzyx309e) rfl
theorem zyx309 {l : Launch} {D : va_G} {tys : List (ClassId × FieldType)} {o : zO} {z : Nat} (E : zEnv tys) : zKnW l D vwCl tys o z (zXX o z) zTs zprog2 zyx309d :=
  zkn_ml E (fun g => fun _ h => absurd h List.not_mem_nil) (show zget zprog2 263 = some mX8_passes from rfl) rfl (by decide) (by decide) (by decide) (by decide) zyx309e
theorem zyx310e : zrunw zprog2 (zovW []) 100000 zcut0 3 420 kX8_passes (zkinL zyx310q) 0 (zargs 0 zyx310a, [], (zyh1371.1, zyh1371.2.1, 0), 0, 0) = true := zall_ok zyg22_ok (k := 4) (a := zbzyx310e) rfl
theorem zyx310 {l : Launch} {D : va_G} {tys : List (ClassId × FieldType)} {o : zO} {z : Nat} (E : zEnv tys) : zKnW l D vwCl tys o z (zXX o z) zTs zprog2 zyx310d :=
  zkn_ml E (fun g => fun _ h => absurd h List.not_mem_nil) (show zget zprog2 263 = some mX8_passes from rfl) rfl (by decide) (by decide) (by decide) (by decide) zyx310e
theorem zyx311e : zrunw zprog2 (zovW []) 100000 zcut0 3 420 kX8_passes (zkinL zyx311q) 0 (zargs 0 zyx311a, [], (zyh1374.1, zyh1374.2.1, 0), 0, 0) = true := zall_ok zyg22_ok (k := 5) (a := zbzyx311e) rfl
theorem zyx311 {l : Launch} {D : va_G} {tys : List (ClassId × FieldType)} {o : zO} {z : Nat} (E : zEnv tys) : zKnW l D vwCl tys o z (zXX o z) zTs zprog2 zyx311d :=
  zkn_ml E (fun g => fun _ h => absurd h List.not_mem_nil) (show zget zprog2 263 = some mX8_passes from rfl) rfl (by decide) (by decide) (by decide) (by decide) zyx311e
theorem zyx312e : zrunw zprog2 (zovW []) 100000 zcut0 3 420 kX8_passes (zkinL zyx312q) 0 (zargs 0 zyx312a, [], (zyh1377.1, zyh1377.2.1, 0), 0, 0) = true := zall_ok zyg22_ok (k := 6) (a := zbzyx312e) rfl
theorem zyx312 {l : Launch} {D : va_G} {tys : List (ClassId × FieldType)} {o : zO} {z : Nat} (E : zEnv tys) : zKnW l D vwCl tys o z (zXX o z) zTs zprog2 zyx312d :=
  zkn_ml E (fun g => fun _ h => absurd h List.not_mem_nil) (show zget zprog2 263 = some mX8_passes from rfl) rfl (by decide) (by decide) (by decide) (by decide) zyx312e
theorem zyx313e : zrunw zprog2 (zovW []) 100000 zcut0 3 420 kX8_passes (zkinL zyx313q) 0 (zargs 0 zyx313a, [], (zyh1380.1, zyh1380.2.1, 0), 0, 0) = true := zall_ok zyg22_ok (k := 7) (a := zbzyx313e) rfl
theorem zyx313 {l : Launch} {D : va_G} {tys : List (ClassId × FieldType)} {o : zO} {z : Nat} (E : zEnv tys) : zKnW l D vwCl tys o z (zXX o z) zTs zprog2 zyx313d :=
  zkn_ml E (fun g => fun _ h => absurd h List.not_mem_nil) (show zget zprog2 263 = some mX8_passes from rfl) rfl (by decide) (by decide) (by decide) (by decide) zyx313e
theorem zyx314e : zrunw zprog2 (zovW []) 100000 zcut0 3 420 kX8_passes (zkinL zyx314q) 0 (zargs 0 zyx314a, [], (zyh1383.1, zyh1383.2.1, 0), 0, 0) = true := zall_ok zyg22_ok (k := 8) (a := zbzyx314e) rfl
theorem zyx314 {l : Launch} {D : va_G} {tys : List (ClassId × FieldType)} {o : zO} {z : Nat} (E : zEnv tys) : zKnW l D vwCl tys o z (zXX o z) zTs zprog2 zyx314d :=
  zkn_ml E (fun g => fun _ h => absurd h List.not_mem_nil) (show zget zprog2 263 = some mX8_passes from rfl) rfl (by decide) (by decide) (by decide) (by decide) zyx314e
theorem zyx315e : zrunw zprog2 (zovW []) 100000 zcut0 3 420 kX8_passes (zkinL zyx315q) 0 (zargs 0 zyx315a, [], (zyh1386.1, zyh1386.2.1, 0), 0, 0) = true := zall_ok zyg22_ok (k := 9) (a := zbzyx315e) rfl
theorem zyx315 {l : Launch} {D : va_G} {tys : List (ClassId × FieldType)} {o : zO} {z : Nat} (E : zEnv tys) : zKnW l D vwCl tys o z (zXX o z) zTs zprog2 zyx315d :=
  zkn_ml E (fun g => fun _ h => absurd h List.not_mem_nil) (show zget zprog2 263 = some mX8_passes from rfl) rfl (by decide) (by decide) (by decide) (by decide) zyx315e
theorem zyx316e : zrunw zprog2 (zovW []) 100000 zcut0 3 420 kX8_passes (zkinL zyx316q) 0 (zargs 0 zyx316a, [], (zyh1389.1, zyh1389.2.1, 0), 0, 0) = true := zall_ok zyg22_ok (k := 10) (a := zbzyx316e) rfl
theorem zyx316 {l : Launch} {D : va_G} {tys : List (ClassId × FieldType)} {o : zO} {z : Nat} (E : zEnv tys) : zKnW l D vwCl tys o z (zXX o z) zTs zprog2 zyx316d :=
  zkn_ml E (fun g => fun _ h => absurd h List.not_mem_nil) (show zget zprog2 263 = some mX8_passes from rfl) rfl (by decide) (by decide) (by decide) (by decide) zyx316e
theorem zyx317e : zrunw zprog2 (zovW []) 100000 zcut0 3 420 kX8_passes (zkinL zyx317q) 0 (zargs 0 zyx317a, [], (zyh1392.1, zyh1392.2.1, 0), 0, 0) = true := zall_ok zyg22_ok (k := 11) (a := zbzyx317e) rfl
theorem zyx317 {l : Launch} {D : va_G} {tys : List (ClassId × FieldType)} {o : zO} {z : Nat} (E : zEnv tys) : zKnW l D vwCl tys o z (zXX o z) zTs zprog2 zyx317d :=
  zkn_ml E (fun g => fun _ h => absurd h List.not_mem_nil) (show zget zprog2 263 = some mX8_passes from rfl) rfl (by decide) (by decide) (by decide) (by decide) zyx317e
theorem zyx318e : zrunw zprog2 (zovW []) 100000 zcut0 3 420 kX8_passes (zkinL zyx318q) 0 (zargs 0 zyx318a, [], (zyh1395.1, zyh1395.2.1, 0), 0, 0) = true := zall_ok zyg22_ok (k := 12) (a := zbzyx318e) rfl
theorem zyx318 {l : Launch} {D : va_G} {tys : List (ClassId × FieldType)} {o : zO} {z : Nat} (E : zEnv tys) : zKnW l D vwCl tys o z (zXX o z) zTs zprog2 zyx318d :=
  zkn_ml E (fun g => fun _ h => absurd h List.not_mem_nil) (show zget zprog2 263 = some mX8_passes from rfl) rfl (by decide) (by decide) (by decide) (by decide) zyx318e
theorem zyx319e : zrunw zprog2 (zovW []) 100000 zcut0 3 420 kX8_passes (zkinL zyx319q) 0 (zargs 0 zyx319a, [], (zyh1398.1, zyh1398.2.1, 0), 0, 0) = true := zall_ok zyg22_ok (k := 13) (a := zbzyx319e) rfl
theorem zyx319 {l : Launch} {D : va_G} {tys : List (ClassId × FieldType)} {o : zO} {z : Nat} (E : zEnv tys) : zKnW l D vwCl tys o z (zXX o z) zTs zprog2 zyx319d :=
  zkn_ml E (fun g => fun _ h => absurd h List.not_mem_nil) (show zget zprog2 263 = some mX8_passes from rfl) rfl (by decide) (by decide) (by decide) (by decide) zyx319e
theorem zyx320e : zrunw zprog2 (zovW []) 100000 zcut0 3 420 kX8_passes (zkinL zyx320q) 0 (zargs 0 zyx320a, [], (zyh1401.1, zyh1401.2.1, 0), 0, 0) = true := zall_ok zyg22_ok (k := 14) (a := zbzyx320e) rfl
theorem zyx320 {l : Launch} {D : va_G} {tys : List (ClassId × FieldType)} {o : zO} {z : Nat} (E : zEnv tys) : zKnW l D vwCl tys o z (zXX o z) zTs zprog2 zyx320d :=
  zkn_ml E (fun g => fun _ h => absurd h List.not_mem_nil) (show zget zprog2 263 = some mX8_passes from rfl) rfl (by decide) (by decide) (by decide) (by decide) zyx320e
theorem zyx321e : zrunw zprog2 (zovW []) 100000 zcut0 3 420 kX8_passes (zkinL zyx321q) 0 (zargs 0 zyx321a, [], (zyh1404.1, zyh1404.2.1, 0), 0, 0) = true := zall_ok zyg22_ok (k := 15) (a := zbzyx321e) rfl
theorem zyx321 {l : Launch} {D : va_G} {tys : List (ClassId × FieldType)} {o : zO} {z : Nat} (E : zEnv tys) : zKnW l D vwCl tys o z (zXX o z) zTs zprog2 zyx321d :=
  zkn_ml E (fun g => fun _ h => absurd h List.not_mem_nil) (show zget zprog2 263 = some mX8_passes from rfl) rfl (by decide) (by decide) (by decide) (by decide) zyx321e
theorem zyx322e : zrunw zprog2 (zovW []) 100000 zcut0 3 420 kX8_passes (zkinL zyx322q) 0 (zargs 0 zyx322a, [], (zyh1407.1, zyh1407.2.1, 0), 0, 0) = true := zall_ok zyg22_ok (k := 16) (a := zbzyx322e) rfl
theorem zyx322 {l : Launch} {D : va_G} {tys : List (ClassId × FieldType)} {o : zO} {z : Nat} (E : zEnv tys) : zKnW l D vwCl tys o z (zXX o z) zTs zprog2 zyx322d :=
  zkn_ml E (fun g => fun _ h => absurd h List.not_mem_nil) (show zget zprog2 263 = some mX8_passes from rfl) rfl (by decide) (by decide) (by decide) (by decide) zyx322e
theorem zyx323e : zrunw zprog2 (zovW []) 100000 zcut0 3 420 kX8_passes (zkinL zyx323q) 0 (zargs 0 zyx323a, [], (zyh1410.1, zyh1410.2.1, 0), 0, 0) = true := zall_ok zyg22_ok (k := 17) (a := zbzyx323e) rfl
theorem zyx323 {l : Launch} {D : va_G} {tys : List (ClassId × FieldType)} {o : zO} {z : Nat} (E : zEnv tys) : zKnW l D vwCl tys o z (zXX o z) zTs zprog2 zyx323d :=
  zkn_ml E (fun g => fun _ h => absurd h List.not_mem_nil) (show zget zprog2 263 = some mX8_passes from rfl) rfl (by decide) (by decide) (by decide) (by decide) zyx323e

