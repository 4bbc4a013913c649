noncomputable def zyc457 : zC := .inr (8, [zyv114, zyv15, zyv15, zyv15, zyv114, zyv114, zyv114, zyv114, zyv15, zyv114, zyv15, zyv15, zyv126, zyv17, zyv317, zyv337, zyv124, zyv114, zyv114, zyv114, zyv15, zyv36, zyv129, zyv114, zyv15, zyv114, zyv114, zyv15, zyv15, zyv114, zyv114, zyv114, zyv114, zyv114, zyv114, zyv114, zyv114, zyv114, zyv114, zyv15, zyv114, zyv114, zyv114, zyv114, zyv15, zyv15, zyv15, zyv15, zyv114, zyv114, zyv114])
noncomputable def zyr390 : List zC := [zyc60, zyc60, zyc60, zyc69, zyc10, zyc10, zyc10, zyc12, zyc70, zyc8, zyc8, zyc70, zyc8, zyc8, zyc457, zyc52]
noncomputable def zyh1413 : zH := (126, [zyr9, zyr10, zyr11, zyr12, zyr13, zyr390, zyr6, zyr7], 0)
noncomputable def zyh1414 : zH := (126, [zyr9, zyr10, zyr11, zyr12, zyr13, zyr390, zyr6, zyr7], zym9)
noncomputable def zyc458 : zC := .inr (8, [zyv114, zyv15, zyv15, zyv15, zyv114, zyv114, zyv114, zyv114, zyv15, zyv114, zyv15, zyv15, zyv126, zyv17, zyv317, zyv338, zyv241, zyv114, zyv114, zyv114, zyv15, zyv36, zyv129, zyv114, zyv15, zyv114, zyv114, zyv15, zyv15, zyv114, zyv114, zyv114, zyv114, zyv114, zyv114, zyv114, zyv114, zyv114, zyv114, zyv15, zyv114, zyv114, zyv114, zyv114, zyv15, zyv15, zyv15, zyv15, zyv114, zyv114, zyv114])
noncomputable def zyr391 : List zC := [zyc60, zyc60, zyc60, zyc69, zyc10, zyc10, zyc10, zyc12, zyc70, zyc8, zyc8, zyc70, zyc8, zyc8, zyc458, zyc52]
noncomputable def zyh1415 : zH := (126, [zyr9, zyr10, zyr11, zyr12, zyr13, zyr391, zyr6, zyr7], zym9)
noncomputable def zyc459 : zC := .inr (8, [zyv114, zyv15, zyv15, zyv15, zyv114, zyv114, zyv114, zyv114, zyv15, zyv114, zyv15, zyv15, zyv126, zyv17, zyv317, zyv338, zyv124, zyv114, zyv114, zyv114, zyv15, zyv36, zyv129, zyv114, zyv15, zyv114, zyv114, zyv15, zyv15, zyv114, zyv114, zyv114, zyv114, zyv114, zyv114, zyv114, zyv114, zyv114, zyv114, zyv15, zyv114, zyv114, zyv114, zyv114, zyv15, zyv15, zyv15, zyv15, zyv114, zyv114, zyv114])
noncomputable def zyr392 : List zC := [zyc60, zyc60, zyc60, zyc69, zyc10, zyc10, zyc10, zyc12, zyc70, zyc8, zyc8, zyc70, zyc8, zyc8, zyc459, zyc52]
noncomputable def zyh1416 : zH := (126, [zyr9, zyr10, zyr11, zyr12, zyr13, zyr392, zyr6, zyr7], 0)
noncomputable def zyh1417 : zH := (126, [zyr9, zyr10, zyr11, zyr12, zyr13, zyr392, zyr6, zyr7], zym9)
noncomputable def zyc460 : zC := .inr (8, [zyv114, zyv15, zyv15, zyv15, zyv114, zyv114, zyv114, zyv114, zyv15, zyv114, zyv15, zyv15, zyv126, zyv17, zyv317, zyv339, zyv241, zyv114, zyv114, zyv114, zyv15, zyv36, zyv129, zyv114, zyv15, zyv114, zyv114, zyv15, zyv15, zyv114, zyv114, zyv114, zyv114, zyv114, zyv114, zyv114, zyv114, zyv114, zyv114, zyv15, zyv114, zyv114, zyv114, zyv114, zyv15, zyv15, zyv15, zyv15, zyv114, zyv114, zyv114])
noncomputable def zyr393 : List zC := [zyc60, zyc60, zyc60, zyc69, zyc10, zyc10, zyc10, zyc12, zyc70, zyc8, zyc8, zyc70, zyc8, zyc8, zyc460, zyc52]
noncomputable def zyh1418 : zH := (126, [zyr9, zyr10, zyr11, zyr12, zyr13, zyr393, zyr6, zyr7], zym9)
noncomputable def zyc461 : zC := .inr (8, [zyv114, zyv15, zyv15, zyv15, zyv114, zyv114, zyv114, zyv114, zyv15, zyv114, zyv15, zyv15, zyv126, zyv17, zyv317, zyv339, zyv124, zyv114, zyv114, zyv114, zyv15, zyv36, zyv129, zyv114, zyv15, zyv114, zyv114, zyv15, zyv15, zyv114, zyv114, zyv114, zyv114, zyv114, zyv114, zyv114, zyv114, zyv114, zyv114, zyv15, zyv114, zyv114, zyv114, zyv114, zyv15, zyv15, zyv15, zyv15, zyv114, zyv114, zyv114])
noncomputable def zyr394 : List zC := [zyc60, zyc60, zyc60, zyc69, zyc10, zyc10, zyc10, zyc12, zyc70, zyc8, zyc8, zyc70, zyc8, zyc8, zyc461, zyc52]
noncomputable def zyh1419 : zH := (126, [zyr9, zyr10, zyr11, zyr12, zyr13, zyr394, zyr6, zyr7], 0)
noncomputable def zyh1420 : zH := (126, [zyr9, zyr10, zyr11, zyr12, zyr13, zyr394, zyr6, zyr7], zym9)
noncomputable def zyc462 : zC := .inr (8, [zyv114, zyv15, zyv15, zyv15, zyv114, zyv114, zyv114, zyv114, zyv15, zyv114, zyv15, zyv15, zyv126, zyv17, zyv317, zyv340, zyv241, zyv114, zyv114, zyv114, zyv15, zyv36, zyv129, zyv114, zyv15, zyv114, zyv114, zyv15, zyv15, zyv114, zyv114, zyv114, zyv114, zyv114, zyv114, zyv114, zyv114, zyv114, zyv114, zyv15, zyv114, zyv114, zyv114, zyv114, zyv15, zyv15, zyv15, zyv15, zyv114, zyv114, zyv114])
noncomputable def zyr395 : List zC := [zyc60, zyc60, zyc60, zyc69, zyc10, zyc10, zyc10, zyc12, zyc70, zyc8, zyc8, zyc70, zyc8, zyc8, zyc462, zyc52]
noncomputable def zyh1421 : zH := (126, [zyr9, zyr10, zyr11, zyr12, zyr13, zyr395, zyr6, zyr7], zym9)
noncomputable def zyc463 : zC := .inr (8, [zyv114, zyv15, zyv15, zyv15, zyv114, zyv114, zyv114, zyv114, zyv15, zyv114, zyv15, zyv15, zyv126, zyv17, zyv317, zyv340, zyv124, zyv114, zyv114, zyv114, zyv15, zyv36, zyv129, zyv114, zyv15, zyv114, zyv114, zyv15, zyv15, zyv114, zyv114, zyv114, zyv114, zyv114, zyv114, zyv114, zyv114, zyv114, zyv114, zyv15, zyv114, zyv114, zyv114, zyv114, zyv15, zyv15, zyv15, zyv15, zyv114, zyv114, zyv114])
noncomputable def zyr396 : List zC := [zyc60, zyc60, zyc60, zyc69, zyc10, zyc10, zyc10, zyc12, zyc70, zyc8, zyc8, zyc70, zyc8, zyc8, zyc463, zyc52]
noncomputable def zyh1422 : zH := (126, [zyr9, zyr10, zyr11, zyr12, zyr13, zyr396, zyr6, zyr7], 0)
noncomputable def zyh1423 : zH := (126, [zyr9, zyr10, zyr11, zyr12, zyr13, zyr396, zyr6, zyr7], zym9)
noncomputable def zyc464 : zC := .inr (8, [zyv114, zyv15, zyv15, zyv15, zyv114, zyv114, zyv114, zyv114, zyv15, zyv114, zyv15, zyv15, zyv126, zyv17, zyv317, zyv341, zyv241, zyv114, zyv114, zyv114, zyv15, zyv36, zyv129, zyv114, zyv15, zyv114, zyv114, zyv15, zyv15, zyv114, zyv114, zyv114, zyv114, zyv114, zyv114, zyv114, zyv114, zyv114, zyv114, zyv15, zyv114, zyv114, zyv114, zyv114, zyv15, zyv15, zyv15, zyv15, zyv114, zyv114, zyv114])
noncomputable def zyr397 : List zC := [zyc60, zyc60, zyc60, zyc69, zyc10, zyc10, zyc10, zyc12, zyc70, zyc8, zyc8, zyc70, zyc8, zyc8, zyc464, zyc52]
noncomputable def zyh1424 : zH := (126, [zyr9, zyr10, zyr11, zyr12, zyr13, zyr397, zyr6, zyr7], zym9)
noncomputable def zyc465 : zC := .inr (8, [zyv114, zyv15, zyv15, zyv15, zyv114, zyv114, zyv114, zyv114, zyv15, zyv114, zyv15, zyv15, zyv126, zyv17, zyv317, zyv341, zyv124, zyv114, zyv114, zyv114, zyv15, zyv36, zyv129, zyv114, zyv15, zyv114, zyv114, zyv15, zyv15, zyv114, zyv114, zyv114, zyv114, zyv114, zyv114, zyv114, zyv114, zyv114, zyv114, zyv15, zyv114, zyv114, zyv114, zyv114, zyv15, zyv15, zyv15, zyv15, zyv114, zyv114, zyv114])
noncomputable def zyr398 : List zC := [zyc60, zyc60, zyc60, zyc69, zyc10, zyc10, zyc10, zyc12, zyc70, zyc8, zyc8, zyc70, zyc8, zyc8, zyc465, zyc52]
noncomputable def zyh1425 : zH := (126, [zyr9, zyr10, zyr11, zyr12, zyr13, zyr398, zyr6, zyr7], 0)
noncomputable def zyh1426 : zH := (126, [zyr9, zyr10, zyr11, zyr12, zyr13, zyr398, zyr6, zyr7], zym9)
noncomputable def zyc466 : zC := .inr (8, [zyv114, zyv15, zyv15, zyv15, zyv114, zyv114, zyv114, zyv114, zyv15, zyv114, zyv15, zyv15, zyv126, zyv17, zyv317, zyv342, zyv241, zyv114, zyv114, zyv114, zyv15, zyv36, zyv129, zyv114, zyv15, zyv114, zyv114, zyv15, zyv15, zyv114, zyv114, zyv114, zyv114, zyv114, zyv114, zyv114, zyv114, zyv114, zyv114, zyv15, zyv114, zyv114, zyv114, zyv114, zyv15, zyv15, zyv15, zyv15, zyv114, zyv114, zyv114])
noncomputable def zyr399 : List zC := [zyc60, zyc60, zyc60, zyc69, zyc10, zyc10, zyc10, zyc12, zyc70, zyc8, zyc8, zyc70, zyc8, zyc8, zyc466, zyc52]
noncomputable def zyh1427 : zH := (126, [zyr9, zyr10, zyr11, zyr12, zyr13, zyr399, zyr6, zyr7], zym9)
noncomputable def zyc467 : zC := .inr (8, [zyv114, zyv15, zyv15, zyv15, zyv114, zyv114, zyv114, zyv114, zyv15, zyv114, zyv15, zyv15, zyv126, zyv17, zyv317, zyv342, zyv124, zyv114, zyv114, zyv114, zyv15, zyv36, zyv129, zyv114, zyv15, zyv114, zyv114, zyv15, zyv15, zyv114, zyv114, zyv114, zyv114, zyv114, zyv114, zyv114, zyv114, zyv114, zyv114, zyv15, zyv114, zyv114, zyv114, zyv114, zyv15, zyv15, zyv15, zyv15, zyv114, zyv114, zyv114])
noncomputable def zyr400 : List zC := [zyc60, zyc60, zyc60, zyc69, zyc10, zyc10, zyc10, zyc12, zyc70, zyc8, zyc8, zyc70, zyc8, zyc8, zyc467, zyc52]
noncomputable def zyh1428 : zH := (126, [zyr9, zyr10, zyr11, zyr12, zyr13, zyr400, zyr6, zyr7], 0)
noncomputable def zyh1429 : zH := (126, [zyr9, zyr10, zyr11, zyr12, zyr13, zyr400, zyr6, zyr7], zym9)
noncomputable def zyc468 : zC := .inr (8, [zyv114, zyv15, zyv15, zyv15, zyv114, zyv114, zyv114, zyv114, zyv15, zyv114, zyv15, zyv15, zyv126, zyv17, zyv317, zyv343, zyv241, zyv114, zyv114, zyv114, zyv15, zyv36, zyv129, zyv114, zyv15, zyv114, zyv114, zyv15, zyv15, zyv114, zyv114, zyv114, zyv114, zyv114, zyv114, zyv114, zyv114, zyv114, zyv114, zyv15, zyv114, zyv114, zyv114, zyv114, zyv15, zyv15, zyv15, zyv15, zyv114, zyv114, zyv114])
noncomputable def zyr401 : List zC := [zyc60, zyc60, zyc60, zyc69, zyc10, zyc10, zyc10, zyc12, zyc70, zyc8, zyc8, zyc70, zyc8, zyc8, zyc468, zyc52]
noncomputable def zyh1430 : zH := (126, [zyr9, zyr10, zyr11, zyr12, zyr13, zyr401, zyr6, zyr7], zym9)
noncomputable def zyc469 : zC := .inr (8, [zyv114, zyv15, zyv15, zyv15, zyv114, zyv114, zyv114, zyv114, zyv15, zyv114, zyv15, zyv15, zyv126, zyv17, zyv317, zyv343, zyv124, zyv114, zyv114, zyv114, zyv15, zyv36, zyv129, zyv114, zyv15, zyv114, zyv114, zyv15, zyv15, zyv114, zyv114, zyv114, zyv114, zyv114, zyv114, zyv114, zyv114, zyv114, zyv114, zyv15, zyv114, zyv114, zyv114, zyv114, zyv15, zyv15, zyv15, zyv15, zyv114, zyv114, zyv114])
noncomputable def zyr402 : List zC := [zyc60, zyc60, zyc60, zyc69, zyc10, zyc10, zyc10, zyc12, zyc70, zyc8, zyc8, zyc70, zyc8, zyc8, zyc469, zyc52]
noncomputable def zyh1431 : zH := (126, [zyr9, zyr10, zyr11, zyr12, zyr13, zyr402, zyr6, zyr7], 0)
noncomputable def zyh1432 : zH := (126, [zyr9, zyr10, zyr11, zyr12, zyr13, zyr402, zyr6, zyr7], zym9)
noncomputable def zyc470 : zC := .inr (8, [zyv114, zyv15, zyv15, zyv15, zyv114, zyv114, zyv114, zyv114, zyv15, zyv114, zyv15, zyv15, zyv126, zyv17, zyv317, zyv344, zyv241, zyv114, zyv114, zyv114, zyv15, zyv36, zyv129, zyv114, zyv15, zyv114, zyv114, zyv15, zyv15, zyv114, zyv114, zyv114, zyv114, zyv114, zyv114, zyv114, zyv114, zyv114, zyv114, zyv15, zyv114, zyv114, zyv114, zyv114, zyv15, zyv15, zyv15, zyv15, zyv114, zyv114, zyv114])
noncomputable def zyr403 : List zC := [zyc60, zyc60, zyc60, zyc69, zyc10, zyc10, zyc10, zyc12, zyc70, zyc8, zyc8, zyc70, zyc8, zyc8, zyc470, zyc52]
noncomputable def zyh1433 : zH := (126, [zyr9, zyr10, zyr11, zyr12, zyr13, zyr403, zyr6, zyr7], zym9)
noncomputable def zyc471 : zC := .inr (8, [zyv114, zyv15, zyv15, zyv15, zyv114, zyv114, zyv114, zyv114, zyv15, zyv114, zyv15, zyv15, zyv126, zyv17, zyv317, zyv344, zyv124, zyv114, zyv114, zyv114, zyv15, zyv36, zyv129, zyv114, zyv15, zyv114, zyv114, zyv15, zyv15, zyv114, zyv114, zyv114, zyv114, zyv114, zyv114, zyv114, zyv114, zyv114, zyv114, zyv15, zyv114, zyv114, zyv114, zyv114, zyv15, zyv15, zyv15, zyv15, zyv114, zyv114, zyv114])
noncomputable def zyr404 : List zC := [zyc60, zyc60, zyc60, zyc69, zyc10, zyc10, zyc10, zyc12, zyc70, zyc8, zyc8, zyc70, zyc8, zyc8, zyc471, zyc52]
noncomputable def zyh1434 : zH := (126, [zyr9, zyr10, zyr11, zyr12, zyr13, zyr404, zyr6, zyr7], 0)
noncomputable def zyh1435 : zH := (126, [zyr9, zyr10, zyr11, zyr12, zyr13, zyr404, zyr6, zyr7], zym9)
noncomputable def zyc472 : zC := .inr (8, [zyv114, zyv15, zyv15, zyv15, zyv114, zyv114, zyv114, zyv114, zyv15, zyv114, zyv15, zyv15, zyv126, zyv17, zyv317, zyv345, zyv241, zyv114, zyv114, zyv114, zyv15, zyv36, zyv129, zyv114, zyv15, zyv114, zyv114, zyv15, zyv15, zyv114, zyv114, zyv114, zyv114, zyv114, zyv114, zyv114, zyv114, zyv114, zyv114, zyv15, zyv114, zyv114, zyv114, zyv114, zyv15, zyv15, zyv15, zyv15, zyv114, zyv114, zyv114])
noncomputable def zyr405 : List zC := [zyc60, zyc60, zyc60, zyc69, zyc10, zyc10, zyc10, zyc12, zyc70, zyc8, zyc8, zyc70, zyc8, zyc8, zyc472, zyc52]
noncomputable def zyh1436 : zH := (126, [zyr9, zyr10, zyr11, zyr12, zyr13, zyr405, zyr6, zyr7], zym9)
noncomputable def zyc473 : zC := .inr (8, [zyv114, zyv15, zyv15, zyv15, zyv114, zyv114, zyv114, zyv114, zyv15, zyv114, zyv15, zyv15, zyv126, zyv17, zyv317, zyv345, zyv124, zyv114, zyv114, zyv114, zyv15, zyv36, zyv129, zyv114, zyv15, zyv114, zyv114, zyv15, zyv15, zyv114, zyv114, zyv114, zyv114, zyv114, zyv114, zyv114, zyv114, zyv114, zyv114, zyv15, zyv114, zyv114, zyv114, zyv114, zyv15, zyv15, zyv15, zyv15, zyv114, zyv114, zyv114])
noncomputable def zyr406 : List zC := [zyc60, zyc60, zyc60, zyc69, zyc10, zyc10, zyc10, zyc12, zyc70, zyc8, zyc8, zyc70, zyc8, zyc8, zyc473, zyc52]
noncomputable def zyh1437 : zH := (126, [zyr9, zyr10, zyr11, zyr12, zyr13, zyr406, zyr6, zyr7], 0)
noncomputable def zyh1438 : zH := (126, [zyr9, zyr10, zyr11, zyr12, zyr13, zyr406, zyr6, zyr7], zym9)
noncomputable def zyc474 : zC := .inr (8, [zyv114, zyv15, zyv15, zyv15, zyv114, zyv114, zyv114, zyv114, zyv15, zyv114, zyv15, zyv15, zyv126, zyv17, zyv317, zyv346, zyv241, zyv114, zyv114, zyv114, zyv15, zyv36, zyv129, zyv114, zyv15, zyv114, zyv114, zyv15, zyv15, zyv114, zyv114, zyv114, zyv114, zyv114, zyv114, zyv114, zyv114, zyv114, zyv114, zyv15, zyv114, zyv114, zyv114, zyv114, zyv15, zyv15, zyv15, zyv15, zyv114, zyv114, zyv114])
noncomputable def zyr407 : List zC := [zyc60, zyc60, zyc60, zyc69, zyc10, zyc10, zyc10, zyc12, zyc70, zyc8, zyc8, zyc70, zyc8, zyc8, zyc474, zyc52]
noncomputable def zyh1439 : zH := (126, [zyr9, zyr10, zyr11, zyr12, zyr13, zyr407, zyr6, zyr7], zym9)
noncomputable def zyc475 : zC := .inr (8, [zyv114, zyv15, zyv15, zyv15, zyv114, zyv114, zyv114, zyv114, zyv15, zyv114, zyv15, zyv15, zyv126, zyv17, zyv317, zyv346, zyv124, zyv114, zyv114, zyv114, zyv15, zyv36, zyv129, zyv114, zyv15, zyv114, zyv114, zyv15, zyv15, zyv114, zyv114, zyv114, zyv114, zyv114, zyv114, zyv114, zyv114, zyv114, zyv114, zyv15, zyv114, zyv114, zyv114, zyv114, zyv15, zyv15, zyv15, zyv15, zyv114, zyv114, zyv114])
noncomputable def zyr408 : List zC := [zyc60, zyc60, zyc60, zyc69, zyc10, zyc10, zyc10, zyc12, zyc70, zyc8, zyc8, zyc70, zyc8, zyc8, zyc475, zyc52]
noncomputable def zyh1440 : zH := (126, [zyr9, zyr10, zyr11, zyr12, zyr13, zyr408, zyr6, zyr7], 0)
noncomputable def zyh1441 : zH := (126, [zyr9, zyr10, zyr11, zyr12, zyr13, zyr408, zyr6, zyr7], zym9)
noncomputable def zyc476 : zC := .inr (8, [zyv114, zyv15, zyv15, zyv15, zyv114, zyv114, zyv114, zyv114, zyv15, zyv114, zyv15, zyv15, zyv126, zyv17, zyv317, zyv347, zyv241, zyv114, zyv114, zyv114, zyv15, zyv36, zyv129, zyv114, zyv15, zyv114, zyv114, zyv15, zyv15, zyv114, zyv114, zyv114, zyv114, zyv114, zyv114, zyv114, zyv114, zyv114, zyv114, zyv15, zyv114, zyv114, zyv114, zyv114, zyv15, zyv15, zyv15, zyv15, zyv114, zyv114, zyv114])
noncomputable def zyr409 : List zC := [zyc60, zyc60, zyc60, zyc69, zyc10, zyc10, zyc10, zyc12, zyc70, zyc8, zyc8, zyc70, zyc8, zyc8, zyc476, zyc52]
noncomputable def zyh1442 : zH := (126, [zyr9, zyr10, zyr11, zyr12, zyr13, zyr409, zyr6, zyr7], zym9)
noncomputable def zyc477 : zC := .inr (8, [zyv114, zyv15, zyv15, zyv15, zyv114, zyv114, zyv114, zyv114, zyv15, zyv114, zyv15, zyv15, zyv126, zyv17, zyv317, zyv347, zyv124, zyv114, zyv114, zyv114, zyv15, zyv36, zyv129, zyv114, zyv15, zyv114, zyv114, zyv15, zyv15, zyv114, zyv114, zyv114, zyv114, zyv114, zyv114, zyv114, zyv114, zyv114, zyv114, zyv15, zyv114, zyv114, zyv114, zyv114, zyv15, zyv15, zyv15, zyv15, zyv114, zyv114, zyv114])
noncomputable def zyr410 : List zC := [zyc60, zyc60, zyc60, zyc69, zyc10, zyc10, zyc10, zyc12, zyc70, zyc8, zyc8, zyc70, zyc8, zyc8, zyc477, zyc52]
noncomputable def zyh1443 : zH := (126, [zyr9, zyr10, zyr11, zyr12, zyr13, zyr410, zyr6, zyr7], 0)
noncomputable def zyh1444 : zH := (126, [zyr9, zyr10, zyr11, zyr12, zyr13, zyr410, zyr6, zyr7], zym9)
noncomputable def zyc478 : zC := .inr (8, [zyv114, zyv15, zyv15, zyv15, zyv114, zyv114, zyv114, zyv114, zyv15, zyv114, zyv15, zyv15, zyv126, zyv17, zyv317, zyv348, zyv241, zyv114, zyv114, zyv114, zyv15, zyv36, zyv129, zyv114, zyv15, zyv114, zyv114, zyv15, zyv15, zyv114, zyv114, zyv114, zyv114, zyv114, zyv114, zyv114, zyv114, zyv114, zyv114, zyv15, zyv114, zyv114, zyv114, zyv114, zyv15, zyv15, zyv15, zyv15, zyv114, zyv114, zyv114])
noncomputable def zyr411 : List zC := [zyc60, zyc60, zyc60, zyc69, zyc10, zyc10, zyc10, zyc12, zyc70, zyc8, zyc8, zyc70, zyc8, zyc8, zyc478, zyc52]
noncomputable def zyh1445 : zH := (126, [zyr9, zyr10, zyr11, zyr12, zyr13, zyr411, zyr6, zyr7], zym9)
noncomputable def zyc479 : zC := .inr (8, [zyv114, zyv15, zyv15, zyv15, zyv114, zyv114, zyv114, zyv114, zyv15, zyv114, zyv15, zyv15, zyv126, zyv17, zyv317, zyv348, zyv124, zyv114, zyv114, zyv114, zyv15, zyv36, zyv129, zyv114, zyv15, zyv114, zyv114, zyv15, zyv15, zyv114, zyv114, zyv114, zyv114, zyv114, zyv114, zyv114, zyv114, zyv114, zyv114, zyv15, zyv114, zyv114, zyv114, zyv114, zyv15, zyv15, zyv15, zyv15, zyv114, zyv114, zyv114])
noncomputable def zyr412 : List zC := [zyc60, zyc60, zyc60, zyc69, zyc10, zyc10, zyc10, zyc12, zyc70, zyc8, zyc8, zyc70, zyc8, zyc8, zyc479, zyc52]
noncomputable def zyh1446 : zH := (126, [zyr9, zyr10, zyr11, zyr12, zyr13, zyr412, zyr6, zyr7], 0)
noncomputable def zyh1447 : zH := (126, [zyr9, zyr10, zyr11, zyr12, zyr13, zyr412, zyr6, zyr7], zym9)
noncomputable def zyc480 : zC := .inr (8, [zyv114, zyv15, zyv15, zyv15, zyv114, zyv114, zyv114, zyv114, zyv15, zyv114, zyv15, zyv15, zyv126, zyv17, zyv317, zyv349, zyv241, zyv114, zyv114, zyv114, zyv15, zyv36, zyv129, zyv114, zyv15, zyv114, zyv114, zyv15, zyv15, zyv114, zyv114, zyv114, zyv114, zyv114, zyv114, zyv114, zyv114, zyv114, zyv114, zyv15, zyv114, zyv114, zyv114, zyv114, zyv15, zyv15, zyv15, zyv15, zyv114, zyv114, zyv114])
noncomputable def zyr413 : List zC := [zyc60, zyc60, zyc60, zyc69, zyc10, zyc10, zyc10, zyc12, zyc70, zyc8, zyc8, zyc70, zyc8, zyc8, zyc480, zyc52]
noncomputable def zyh1448 : zH := (126, [zyr9, zyr10, zyr11, zyr12, zyr13, zyr413, zyr6, zyr7], zym9)
noncomputable def zyc481 : zC := .inr (8, [zyv114, zyv15, zyv15, zyv15, zyv114, zyv114, zyv114, zyv114, zyv15, zyv114, zyv15, zyv15, zyv126, zyv17, zyv317, zyv349, zyv124, zyv114, zyv114, zyv114, zyv15, zyv36, zyv129, zyv114, zyv15, zyv114, zyv114, zyv15, zyv15, zyv114, zyv114, zyv114, zyv114, zyv114, zyv114, zyv114, zyv114, zyv114, zyv114, zyv15, zyv114, zyv114, zyv114, zyv114, zyv15, zyv15, zyv15, zyv15, zyv114, zyv114, zyv114])
noncomputable def zyr414 : List zC := [zyc60, zyc60, zyc60, zyc69, zyc10, zyc10, zyc10, zyc12, zyc70, zyc8, zyc8, zyc70, zyc8, zyc8, zyc481, zyc52]
noncomputable def zyh1449 : zH := (126, [zyr9, zyr10, zyr11, zyr12, zyr13, zyr414, zyr6, zyr7], 0)
noncomputable def zyh1450 : zH := (126, [zyr9, zyr10, zyr11, zyr12, zyr13, zyr414, zyr6, zyr7], zym9)
noncomputable def zyc482 : zC := .inr (8, [zyv114, zyv15, zyv15, zyv15, zyv114, zyv114, zyv114, zyv114, zyv15, zyv114, zyv15, zyv15, zyv126, zyv17, zyv317, zyv350, zyv241, zyv114, zyv114, zyv114, zyv15, zyv36, zyv129, zyv114, zyv15, zyv114, zyv114, zyv15, zyv15, zyv114, zyv114, zyv114, zyv114, zyv114, zyv114, zyv114, zyv114, zyv114, zyv114, zyv15, zyv114, zyv114, zyv114, zyv114, zyv15, zyv15, zyv15, zyv15, zyv114, zyv114, zyv114])
noncomputable def zyr415 : List zC := [zyc60, zyc60, zyc60, zyc69, zyc10, zyc10, zyc10, zyc12, zyc70, zyc8, zyc8, zyc70, zyc8, zyc8, zyc482, zyc52]
noncomputable def zyh1451 : zH := (126, [zyr9, zyr10, zyr11, zyr12, zyr13, zyr415, zyr6, zyr7], zym9)
noncomputable def zyc483 : zC := .inr (8, [zyv114, zyv15, zyv15, zyv15, zyv114, zyv114, zyv114, zyv114, zyv15, zyv114, zyv15, zyv15, zyv126, zyv17, zyv317, zyv350, zyv124, zyv114, zyv114, zyv114, zyv15, zyv36, zyv129, zyv114, zyv15, zyv114, zyv114, zyv15, zyv15, zyv114, zyv114, zyv114, zyv114, zyv114, zyv114, zyv114, zyv114, zyv114, zyv114, zyv15, zyv114, zyv114, zyv114, zyv114, zyv15, zyv15, zyv15, zyv15, zyv114, zyv114, zyv114])
noncomputable def zyr416 : List zC := [zyc60, zyc60, zyc60, zyc69, zyc10, zyc10, zyc10, zyc12, zyc70, zyc8, zyc8, zyc70, zyc8, zyc8, zyc483, zyc52]
noncomputable def zyh1452 : zH := (126, [zyr9, zyr10, zyr11, zyr12, zyr13, zyr416, zyr6, zyr7], 0)
noncomputable def zyh1453 : zH := (126, [zyr9, zyr10, zyr11, zyr12, zyr13, zyr416, zyr6, zyr7], zym9)
noncomputable def zyc484 : zC := .inr (8, [zyv114, zyv15, zyv15, zyv15, zyv114, zyv114, zyv114, zyv114, zyv15, zyv114, zyv15, zyv15, zyv126, zyv17, zyv317, zyv351, zyv241, zyv114, zyv114, zyv114, zyv15, zyv36, zyv129, zyv114, zyv15, zyv114, zyv114, zyv15, zyv15, zyv114, zyv114, zyv114, zyv114, zyv114, zyv114, zyv114, zyv114, zyv114, zyv114, zyv15, zyv114, zyv114, zyv114, zyv114, zyv15, zyv15, zyv15, zyv15, zyv114, zyv114, zyv114])
noncomputable def zyr417 : List zC := [zyc60, zyc60, zyc60, zyc69, zyc10, zyc10, zyc10, zyc12, zyc70, zyc8, zyc8, zyc70, zyc8, zyc8, zyc484, zyc52]
noncomputable def zyh1454 : zH := (126, [zyr9, zyr10, zyr11, zyr12, zyr13, zyr417, zyr6, zyr7], zym9)
noncomputable def zyc485 : zC := .inr (8, [zyv114, zyv15, zyv15, zyv15, zyv114, zyv114, zyv114, zyv114, zyv15, zyv114, zyv15, zyv15, zyv126, zyv17, zyv317, zyv351, zyv124, zyv114, zyv114, zyv114, zyv15, zyv36, zyv129, zyv114, zyv15, zyv114, zyv114, zyv15, zyv15, zyv114, zyv114, zyv114, zyv114, zyv114, zyv114, zyv114, zyv114, zyv114, zyv114, zyv15, zyv114, zyv114, zyv114, zyv114, zyv15, zyv15, zyv15, zyv15, zyv114, zyv114, zyv114])
noncomputable def zyr418 : List zC := [zyc60, zyc60, zyc60, zyc69, zyc10, zyc10, zyc10, zyc12, zyc70, zyc8, zyc8, zyc70, zyc8, zyc8, zyc485, zyc52]
noncomputable def zyh1455 : zH := (126, [zyr9, zyr10, zyr11, zyr12, zyr13, zyr418, zyr6, zyr7], 0)
noncomputable def zyh1456 : zH := (126, [zyr9, zyr10, zyr11, zyr12, zyr13, zyr418, zyr6, zyr7], zym9)
noncomputable def zyc486 : zC := .inr (8, [zyv114, zyv15, zyv15, zyv15, zyv114, zyv114, zyv114, zyv114, zyv15, zyv114, zyv15, zyv15, zyv126, zyv17, zyv317, zyv352, zyv241, zyv114, zyv114, zyv114, zyv15, zyv36, zyv129, zyv114, zyv15, zyv114, zyv114, zyv15, zyv15, zyv114, zyv114, zyv114, zyv114, zyv114, zyv114, zyv114, zyv114, zyv114, zyv114, zyv15, zyv114, zyv114, zyv114, zyv114, zyv15, zyv15, zyv15, zyv15, zyv114, zyv114, zyv114])
noncomputable def zyr419 : List zC := [zyc60, zyc60, zyc60, zyc69, zyc10, zyc10, zyc10, zyc12, zyc70, zyc8, zyc8, zyc70, zyc8, zyc8, zyc486, zyc52]
noncomputable def zyh1457 : zH := (126, [zyr9, zyr10, zyr11, zyr12, zyr13, zyr419, zyr6, zyr7], zym9)
noncomputable def zyc487 : zC := .inr (8, [zyv114, zyv15, zyv15, zyv15, zyv114, zyv114, zyv114, zyv114, zyv15, zyv114, zyv15, zyv15, zyv126, zyv17, zyv317, zyv352, zyv124, zyv114, zyv114, zyv114, zyv15, zyv36, zyv129, zyv114, zyv15, zyv114, zyv114, zyv15, zyv15, zyv114, zyv114, zyv114, zyv114, zyv114, zyv114, zyv114, zyv114, zyv114, zyv114, zyv15, zyv114, zyv114, zyv114, zyv114, zyv15, zyv15, zyv15, zyv15, zyv114, zyv114, zyv114])
noncomputable def zyr420 : List zC := [zyc60, zyc60, zyc60, zyc69, zyc10, zyc10, zyc10, zyc12, zyc70, zyc8, zyc8, zyc70, zyc8, zyc8, zyc487, zyc52]
noncomputable def zyh1458 : zH := (126, [zyr9, zyr10, zyr11, zyr12, zyr13, zyr420, zyr6, zyr7], 0)
noncomputable def zyh1459 : zH := (126, [zyr9, zyr10, zyr11, zyr12, zyr13, zyr420, zyr6, zyr7], zym9)
noncomputable def zyc488 : zC := .inr (8, [zyv114, zyv15, zyv15, zyv15, zyv114, zyv114, zyv114, zyv114, zyv15, zyv114, zyv15, zyv15, zyv126, zyv17, zyv317, zyv353, zyv241, zyv114, zyv114, zyv114, zyv15, zyv36, zyv129, zyv114, zyv15, zyv114, zyv114, zyv15, zyv15, zyv114, zyv114, zyv114, zyv114, zyv114, zyv114, zyv114, zyv114, zyv114, zyv114, zyv15, zyv114, zyv114, zyv114, zyv114, zyv15, zyv15, zyv15, zyv15, zyv114, zyv114, zyv114])
noncomputable def zyr421 : List zC := [zyc60, zyc60, zyc60, zyc69, zyc10, zyc10, zyc10, zyc12, zyc70, zyc8, zyc8, zyc70, zyc8, zyc8, zyc488, zyc52]
noncomputable def zyh1460 : zH := (126, [zyr9, zyr10, zyr11, zyr12, zyr13, zyr421, zyr6, zyr7], zym9)
noncomputable def zyc489 : zC := .inr (8, [zyv114, zyv15, zyv15, zyv15, zyv114, zyv114, zyv114, zyv114, zyv15, zyv114, zyv15, zyv15, zyv126, zyv17, zyv317, zyv353, zyv124, zyv114, zyv114, zyv114, zyv15, zyv36, zyv129, zyv114, zyv15, zyv114, zyv114, zyv15, zyv15, zyv114, zyv114, zyv114, zyv114, zyv114, zyv114, zyv114, zyv114, zyv114, zyv114, zyv15, zyv114, zyv114, zyv114, zyv114, zyv15, zyv15, zyv15, zyv15, zyv114, zyv114, zyv114])
noncomputable def zyr422 : List zC := [zyc60, zyc60, zyc60, zyc69, zyc10, zyc10, zyc10, zyc12, zyc70, zyc8, zyc8, zyc70, zyc8, zyc8, zyc489, zyc52]
noncomputable def zyh1461 : zH := (126, [zyr9, zyr10, zyr11, zyr12, zyr13, zyr422, zyr6, zyr7], 0)
noncomputable def zyh1462 : zH := (126, [zyr9, zyr10, zyr11, zyr12, zyr13, zyr422, zyr6, zyr7], zym9)
noncomputable def zyc490 : zC := .inr (8, [zyv114, zyv15, zyv15, zyv15, zyv114, zyv114, zyv114, zyv114, zyv15, zyv114, zyv15, zyv15, zyv126, zyv17, zyv317, zyv354, zyv241, zyv114, zyv114, zyv114, zyv15, zyv36, zyv129, zyv114, zyv15, zyv114, zyv114, zyv15, zyv15, zyv114, zyv114, zyv114, zyv114, zyv114, zyv114, zyv114, zyv114, zyv114, zyv114, zyv15, zyv114, zyv114, zyv114, zyv114, zyv15, zyv15, zyv15, zyv15, zyv114, zyv114, zyv114])
noncomputable def zyr423 : List zC := [zyc60, zyc60, zyc60, zyc69, zyc10, zyc10, zyc10, zyc12, zyc70, zyc8, zyc8, zyc70, zyc8, zyc8, zyc490, zyc52]
noncomputable def zyh1463 : zH := (126, [zyr9, zyr10, zyr11, zyr12, zyr13, zyr423, zyr6, zyr7], zym9)
noncomputable def zyc491 : zC := .inr (8, [zyv114, zyv15, zyv15, zyv15, zyv114, zyv114, zyv114, zyv114, zyv15, zyv114, zyv15, zyv15, zyv126, zyv17, zyv317, zyv354, zyv124, zyv114, zyv114, zyv114, zyv15, zyv36, zyv129, zyv114, zyv15, zyv114, zyv114, zyv15, zyv15, zyv114, zyv114, zyv114, zyv114, zyv114, zyv114, zyv114, zyv114, zyv114, zyv114, zyv15, zyv114, zyv114, zyv114, zyv114, zyv15, zyv15, zyv15, zyv15, zyv114, zyv114, zyv114])
noncomputable def zyr424 : List zC := [zyc60, zyc60, zyc60, zyc69, zyc10, zyc10, zyc10, zyc12, zyc70, zyc8, zyc8, zyc70, zyc8, zyc8, zyc491, zyc52]
noncomputable def zyh1464 : zH := (126, [zyr9, zyr10, zyr11, zyr12, zyr13, zyr424, zyr6, zyr7], 0)
noncomputable def zyh1465 : zH := (126, [zyr9, zyr10, zyr11, zyr12, zyr13, zyr424, zyr6, zyr7], zym9)
noncomputable def zyc492 : zC := .inr (8, [zyv114, zyv15, zyv15, zyv15, zyv114, zyv114, zyv114, zyv114, zyv15, zyv114, zyv15, zyv15, zyv126, zyv17, zyv317, zyv355, zyv241, zyv114, zyv114, zyv114, zyv15, zyv36, zyv129, zyv114, zyv15, zyv114, zyv114, zyv15, zyv15, zyv114, zyv114, zyv114, zyv114, zyv114, zyv114, zyv114, zyv114, zyv114, zyv114, zyv15, zyv114, zyv114, zyv114, zyv114, zyv15, zyv15, zyv15, zyv15, zyv114, zyv114, zyv114])
noncomputable def zyr425 : List zC := [zyc60, zyc60, zyc60, zyc69, zyc10, zyc10, zyc10, zyc12, zyc70, zyc8, zyc8, zyc70, zyc8, zyc8, zyc492, zyc52]
noncomputable def zyh1466 : zH := (126, [zyr9, zyr10, zyr11, zyr12, zyr13, zyr425, zyr6, zyr7], zym9)
noncomputable def zyc493 : zC := .inr (8, [zyv114, zyv15, zyv15, zyv15, zyv114, zyv114, zyv114, zyv114, zyv15, zyv114, zyv15, zyv15, zyv126, zyv17, zyv317, zyv355, zyv124, zyv114, zyv114, zyv114, zyv15, zyv36, zyv129, zyv114, zyv15, zyv114, zyv114, zyv15, zyv15, zyv114, zyv114, zyv114, zyv114, zyv114, zyv114, zyv114, zyv114, zyv114, zyv114, zyv15, zyv114, zyv114, zyv114, zyv114, zyv15, zyv15, zyv15, zyv15, zyv114, zyv114, zyv114])
noncomputable def zyr426 : List zC := [zyc60, zyc60, zyc60, zyc69, zyc10, zyc10, zyc10, zyc12, zyc70, zyc8, zyc8, zyc70, zyc8, zyc8, zyc493, zyc52]
noncomputable def zyh1467 : zH := (126, [zyr9, zyr10, zyr11, zyr12, zyr13, zyr426, zyr6, zyr7], 0)
noncomputable def zyh1468 : zH := (126, [zyr9, zyr10, zyr11, zyr12, zyr13, zyr426, zyr6, zyr7], zym9)
noncomputable def zyc494 : zC := .inr (8, [zyv114, zyv15, zyv15, zyv15, zyv114, zyv114, zyv114, zyv114, zyv15, zyv114, zyv15, zyv15, zyv126, zyv17, zyv317, zyv356, zyv241, zyv114, zyv114, zyv114, zyv15, zyv36, zyv129, zyv114, zyv15, zyv114, zyv114, zyv15, zyv15, zyv114, zyv114, zyv114, zyv114, zyv114, zyv114, zyv114, zyv114, zyv114, zyv114, zyv15, zyv114, zyv114, zyv114, zyv114, zyv15, zyv15, zyv15, zyv15, zyv114, zyv114, zyv114])
noncomputable def zyr427 : List zC := [zyc60, zyc60, zyc60, zyc69, zyc10, zyc10, zyc10, zyc12, zyc70, zyc8, zyc8, zyc70, zyc8, zyc8, zyc494, zyc52]
noncomputable def zyh1469 : zH := (126, [zyr9, zyr10, zyr11, zyr12, zyr13, zyr427, zyr6, zyr7], zym9)
noncomputable def zyc495 : zC := .inr (8, [zyv114, zyv15, zyv15, zyv15, zyv114, zyv114, zyv114, zyv114, zyv15, zyv114, zyv15, zyv15, zyv126, zyv17, zyv317, zyv356, zyv124, zyv114, zyv114, zyv114, zyv15, zyv36, zyv129, zyv114, zyv15, zyv114, zyv114, zyv15, zyv15, zyv114, zyv114, zyv114, zyv114, zyv114, zyv114, zyv114, zyv114, zyv114, zyv114, zyv15, zyv114, zyv114, zyv114, zyv114, zyv15, zyv15, zyv15, zyv15, zyv114, zyv114, zyv114])
noncomputable def zyr428 : List zC := [zyc60, zyc60, zyc60, zyc69, zyc10, zyc10, zyc10, zyc12, zyc70, zyc8, zyc8, zyc70, zyc8, zyc8, zyc495, zyc52]
noncomputable def zyh1470 : zH := (126, [zyr9, zyr10, zyr11, zyr12, zyr13, zyr428, zyr6, zyr7], 0)
noncomputable def zyh1471 : zH := (126, [zyr9, zyr10, zyr11, zyr12, zyr13, zyr428, zyr6, zyr7], zym9)
noncomputable def zyc496 : zC := .inr (8, [zyv114, zyv15, zyv15, zyv15, zyv114, zyv114, zyv114, zyv114, zyv15, zyv114, zyv15, zyv15, zyv126, zyv17, zyv317, zyv357, zyv241, zyv114, zyv114, zyv114, zyv15, zyv36, zyv129, zyv114, zyv15, zyv114, zyv114, zyv15, zyv15, zyv114, zyv114, zyv114, zyv114, zyv114, zyv114, zyv114, zyv114, zyv114, zyv114, zyv15, zyv114, zyv114, zyv114, zyv114, zyv15, zyv15, zyv15, zyv15, zyv114, zyv114, zyv114])
noncomputable def zyr429 : List zC := [zyc60, zyc60, zyc60, zyc69, zyc10, zyc10, zyc10, zyc12, zyc70, zyc8, zyc8, zyc70, zyc8, zyc8, zyc496, zyc52]
noncomputable def zyh1472 : zH := (126, [zyr9, zyr10, zyr11, zyr12, zyr13, zyr429, zyr6, zyr7], zym9)
noncomputable def zyc497 : zC := .inr (8, [zyv114, zyv15, zyv15, zyv15, zyv114, zyv114, zyv114, zyv114, zyv15, zyv114, zyv15, zyv15, zyv126, zyv17, zyv317, zyv357, zyv124, zyv114, zyv114, zyv114, zyv15, zyv36, zyv129, zyv114, zyv15, zyv114, zyv114, zyv15, zyv15, zyv114, zyv114, zyv114, zyv114, zyv114, zyv114, zyv114, zyv114, zyv114, zyv114, zyv15, zyv114, zyv114, zyv114, zyv114, zyv15, zyv15, zyv15, zyv15, zyv114, zyv114, zyv114])
noncomputable def zyr430 : List zC := [zyc60, zyc60, zyc60, zyc69, zyc10, zyc10, zyc10, zyc12, zyc70, zyc8, zyc8, zyc70, zyc8, zyc8, zyc497, zyc52]
noncomputable def zyh1473 : zH := (126, [zyr9, zyr10, zyr11, zyr12, zyr13, zyr430, zyr6, zyr7], 0)
noncomputable def zyh1474 : zH := (126, [zyr9, zyr10, zyr11, zyr12, zyr13, zyr430, zyr6, zyr7], zym9)
noncomputable def zyc498 : zC := .inr (8, [zyv114, zyv15, zyv15, zyv15, zyv114, zyv114, zyv114, zyv114, zyv15, zyv114, zyv15, zyv15, zyv126, zyv17, zyv317, zyv358, zyv241, zyv114, zyv114, zyv114, zyv15, zyv36, zyv129, zyv114, zyv15, zyv114, zyv114, zyv15, zyv15, zyv114, zyv114, zyv114, zyv114, zyv114, zyv114, zyv114, zyv114, zyv114, zyv114, zyv15, zyv114, zyv114, zyv114, zyv114, zyv15, zyv15, zyv15, zyv15, zyv114, zyv114, zyv114])
noncomputable def zyr431 : List zC := [zyc60, zyc60, zyc60, zyc69, zyc10, zyc10, zyc10, zyc12, zyc70, zyc8, zyc8, zyc70, zyc8, zyc8, zyc498, zyc52]
noncomputable def zyh1475 : zH := (126, [zyr9, zyr10, zyr11, zyr12, zyr13, zyr431, zyr6, zyr7], zym9)
noncomputable def zyc499 : zC := .inr (8, [zyv114, zyv15, zyv15, zyv15, zyv114, zyv114, zyv114, zyv114, zyv15, zyv114, zyv15, zyv15, zyv126, zyv17, zyv317, zyv358, zyv124, zyv114, zyv114, zyv114, zyv15, zyv36, zyv129, zyv114, zyv15, zyv114, zyv114, zyv15, zyv15, zyv114, zyv114, zyv114, zyv114, zyv114, zyv114, zyv114, zyv114, zyv114, zyv114, zyv15, zyv114, zyv114, zyv114, zyv114, zyv15, zyv15, zyv15, zyv15, zyv114, zyv114, zyv114])
noncomputable def zyr432 : List zC := [zyc60, zyc60, zyc60, zyc69, zyc10, zyc10, zyc10, zyc12, zyc70, zyc8, zyc8, zyc70, zyc8, zyc8, zyc499, zyc52]
noncomputable def zyh1476 : zH := (126, [zyr9, zyr10, zyr11, zyr12, zyr13, zyr432, zyr6, zyr7], 0)
noncomputable def zyh1477 : zH := (126, [zyr9, zyr10, zyr11, zyr12, zyr13, zyr432, zyr6, zyr7], zym9)
noncomputable def zyc500 : zC := .inr (8, [zyv114, zyv15, zyv15, zyv15, zyv114, zyv114, zyv114, zyv114, zyv15, zyv114, zyv15, zyv15, zyv126, zyv17, zyv317, zyv359, zyv241, zyv114, zyv114, zyv114, zyv15, zyv36, zyv129, zyv114, zyv15, zyv114, zyv114, zyv15, zyv15, zyv114, zyv114, zyv114, zyv114, zyv114, zyv114, zyv114, zyv114, zyv114, zyv114, zyv15, zyv114, zyv114, zyv114, zyv114, zyv15, zyv15, zyv15, zyv15, zyv114, zyv114, zyv114])
noncomputable def zyr433 : List zC := [zyc60, zyc60, zyc60, zyc69, zyc10, zyc10, zyc10, zyc12, zyc70, zyc8, zyc8, zyc70, zyc8, zyc8, zyc500, zyc52]
noncomputable def zyh1478 : zH := (126, [zyr9, zyr10, zyr11, zyr12, zyr13, zyr433, zyr6, zyr7], zym9)
noncomputable def zyc501 : zC := .inr (8, [zyv114, zyv15, zyv15, zyv15, zyv114, zyv114, zyv114, zyv114, zyv15, zyv114, zyv15, zyv15, zyv126, zyv17, zyv317, zyv359, zyv124, zyv114, zyv114, zyv114, zyv15, zyv36, zyv129, zyv114, zyv15, zyv114, zyv114, zyv15, zyv15, zyv114, zyv114, zyv114, zyv114, zyv114, zyv114, zyv114, zyv114, zyv114, zyv114, zyv15, zyv114, zyv114, zyv114, zyv114, zyv15, zyv15, zyv15, zyv15, zyv114, zyv114, zyv114])
noncomputable def zyr434 : List zC := [zyc60, zyc60, zyc60, zyc69, zyc10, zyc10, zyc10, zyc12, zyc70, zyc8, zyc8, zyc70, zyc8, zyc8, zyc501, zyc52]
noncomputable def zyh1479 : zH := (126, [zyr9, zyr10, zyr11, zyr12, zyr13, zyr434, zyr6, zyr7], 0)
noncomputable def zyh1480 : zH := (126, [zyr9, zyr10, zyr11, zyr12, zyr13, zyr434, zyr6, zyr7], zym9)
noncomputable def zyc502 : zC := .inr (8, [zyv114, zyv15, zyv15, zyv15, zyv114, zyv114, zyv114, zyv114, zyv15, zyv114, zyv15, zyv15, zyv126, zyv17, zyv317, zyv317, zyv241, zyv114, zyv114, zyv114, zyv15, zyv36, zyv129, zyv114, zyv15, zyv114, zyv114, zyv15, zyv15, zyv114, zyv114, zyv114, zyv114, zyv114, zyv114, zyv114, zyv114, zyv114, zyv114, zyv15, zyv114, zyv114, zyv114, zyv114, zyv15, zyv15, zyv15, zyv15, zyv114, zyv114, zyv114])
noncomputable def zyr435 : List zC := [zyc60, zyc60, zyc60, zyc69, zyc10, zyc10, zyc10, zyc12, zyc70, zyc8, zyc8, zyc70, zyc8, zyc8, zyc502, zyc52]
noncomputable def zyh1481 : zH := (126, [zyr9, zyr10, zyr11, zyr12, zyr13, zyr435, zyr6, zyr7], zym9)
noncomputable def zyc503 : zC := .inr (8, [zyv114, zyv15, zyv15, zyv15, zyv114, zyv114, zyv114, zyv114, zyv15, zyv114, zyv15, zyv15, zyv126, zyv17, zyv317, zyv317, zyv124, zyv114, zyv114, zyv114, zyv15, zyv36, zyv129, zyv114, zyv15, zyv114, zyv114, zyv15, zyv15, zyv114, zyv114, zyv114, zyv114, zyv114, zyv114, zyv114, zyv114, zyv114, zyv114, zyv15, zyv114, zyv114, zyv114, zyv114, zyv15, zyv15, zyv15, zyv15, zyv114, zyv114, zyv114])
noncomputable def zyr436 : List zC := [zyc60, zyc60, zyc60, zyc69, zyc10, zyc10, zyc10, zyc12, zyc70, zyc8, zyc8, zyc70, zyc8, zyc8, zyc503, zyc52]
noncomputable def zyh1482 : zH := (126, [zyr9, zyr10, zyr11, zyr12, zyr13, zyr436, zyr6, zyr7], 0)
noncomputable def zyh1483 : zH := (126, [zyr9, zyr10, zyr11, zyr12, zyr13, zyr436, zyr6, zyr7], zym9)
noncomputable def zyc504 : zC := .inr (8, [zyv114, zyv15, zyv15, zyv15, zyv114, zyv114, zyv114, zyv114, zyv15, zyv114, zyv15, zyv15, zyv126, zyv17, zyv317, zyv359, zyv17, zyv114, zyv114, zyv114, zyv15, zyv36, zyv129, zyv114, zyv15, zyv114, zyv114, zyv15, zyv15, zyv114, zyv114, zyv114, zyv114, zyv114, zyv114, zyv114, zyv114, zyv114, zyv114, zyv15, zyv114, zyv114, zyv114, zyv114, zyv15, zyv15, zyv15, zyv15, zyv114, zyv114, zyv114])
noncomputable def zyr437 : List zC := [zyc60, zyc60, zyc60, zyc69, zyc10, zyc10, zyc10, zyc12, zyc70, zyc8, zyc8, zyc70, zyc8, zyc8, zyc504, zyc52]
noncomputable def zyh1484 : zH := (126, [zyr9, zyr10, zyr11, zyr12, zyr13, zyr437, zyr6, zyr7], zym9)
noncomputable def zyc505 : zC := .inr (8, [zyv114, zyv15, zyv15, zyv15, zyv114, zyv114, zyv114, zyv114, zyv15, zyv114, zyv15, zyv15, zyv126, zyv17, zyv317, zyv358, zyv17, zyv114, zyv114, zyv114, zyv15, zyv36, zyv129, zyv114, zyv15, zyv114, zyv114, zyv15, zyv15, zyv114, zyv114, zyv114, zyv114, zyv114, zyv114, zyv114, zyv114, zyv114, zyv114, zyv15, zyv114, zyv114, zyv114, zyv114, zyv15, zyv15, zyv15, zyv15, zyv114, zyv114, zyv114])
noncomputable def zyr438 : List zC := [zyc60, zyc60, zyc60, zyc69, zyc10, zyc10, zyc10, zyc12, zyc70, zyc8, zyc8, zyc70, zyc8, zyc8, zyc505, zyc52]
noncomputable def zyh1485 : zH := (126, [zyr9, zyr10, zyr11, zyr12, zyr13, zyr438, zyr6, zyr7], zym9)
noncomputable def zyc506 : zC := .inr (8, [zyv114, zyv15, zyv15, zyv15, zyv114, zyv114, zyv114, zyv114, zyv15, zyv114, zyv15, zyv15, zyv126, zyv17, zyv317, zyv357, zyv17, zyv114, zyv114, zyv114, zyv15, zyv36, zyv129, zyv114, zyv15, zyv114, zyv114, zyv15, zyv15, zyv114, zyv114, zyv114, zyv114, zyv114, zyv114, zyv114, zyv114, zyv114, zyv114, zyv15, zyv114, zyv114, zyv114, zyv114, zyv15, zyv15, zyv15, zyv15, zyv114, zyv114, zyv114])
noncomputable def zyr439 : List zC := [zyc60, zyc60, zyc60, zyc69, zyc10, zyc10, zyc10, zyc12, zyc70, zyc8, zyc8, zyc70, zyc8, zyc8, zyc506, zyc52]
noncomputable def zyh1486 : zH := (126, [zyr9, zyr10, zyr11, zyr12, zyr13, zyr439, zyr6, zyr7], zym9)
noncomputable def zyc507 : zC := .inr (8, [zyv114, zyv15, zyv15, zyv15, zyv114, zyv114, zyv114, zyv114, zyv15, zyv114, zyv15, zyv15, zyv126, zyv17, zyv317, zyv356, zyv17, zyv114, zyv114, zyv114, zyv15, zyv36, zyv129, zyv114, zyv15, zyv114, zyv114, zyv15, zyv15, zyv114, zyv114, zyv114, zyv114, zyv114, zyv114, zyv114, zyv114, zyv114, zyv114, zyv15, zyv114, zyv114, zyv114, zyv114, zyv15, zyv15, zyv15, zyv15, zyv114, zyv114, zyv114])
noncomputable def zyr440 : List zC := [zyc60, zyc60, zyc60, zyc69, zyc10, zyc10, zyc10, zyc12, zyc70, zyc8, zyc8, zyc70, zyc8, zyc8, zyc507, zyc52]
noncomputable def zyh1487 : zH := (126, [zyr9, zyr10, zyr11, zyr12, zyr13, zyr440, zyr6, zyr7], zym9)
/-! X8_passes -/
noncomputable def zyx324a : List zAV := [zyv318, zyv321]
noncomputable def zyx324q : List (Option zAV × zH) := [(some (.inl ((.ofNat 0, .ofNat 0), none)), zyh1414), (some (.inl ((.ofNat 1, .ofNat 1), none)), zyh1415)]
noncomputable def zyx324d : zKw := (263, 2, 3, 420, zyx324a, zyh1413, zyx324q)
noncomputable def zbzyx324e : Bool := zrunw zprog2 (zovW []) 100000 zcut0 3 420 kX8_passes (zkinL zyx324q) 0 (zargs 0 zyx324a, [], (zyh1413.1, zyh1413.2.1, 0), 0, 0)
/-! X8_passes -/
noncomputable def zyx325a : List zAV := [zyv318, zyv321]
noncomputable def zyx325q : List (Option zAV × zH) := [(some (.inl ((.ofNat 0, .ofNat 0), none)), zyh1417), (some (.inl ((.ofNat 1, .ofNat 1), none)), zyh1418)]
noncomputable def zyx325d : zKw := (263, 2, 3, 420, zyx325a, zyh1416, zyx325q)
noncomputable def zbzyx325e : Bool := zrunw zprog2 (zovW []) 100000 zcut0 3 420 kX8_passes (zkinL zyx325q) 0 (zargs 0 zyx325a, [], (zyh1416.1, zyh1416.2.1, 0), 0, 0)
/-! X8_passes -/
noncomputable def zyx326a : List zAV := [zyv318, zyv321]
noncomputable def zyx326q : List (Option zAV × zH) := [(some (.inl ((.ofNat 0, .ofNat 0), none)), zyh1420), (some (.inl ((.ofNat 1, .ofNat 1), none)), zyh1421)]
noncomputable def zyx326d : zKw := (263, 2, 3, 420, zyx326a, zyh1419, zyx326q)
noncomputable def zbzyx326e : Bool := zrunw zprog2 (zovW []) 100000 zcut0 3 420 kX8_passes (zkinL zyx326q) 0 (zargs 0 zyx326a, [], (zyh1419.1, zyh1419.2.1, 0), 0, 0)
/-! X8_passes -/
noncomputable def zyx327a : List zAV := [zyv318, zyv321]
noncomputable def zyx327q : List (Option zAV × zH) := [(some (.inl ((.ofNat 0, .ofNat 0), none)), zyh1423), (some (.inl ((.ofNat 1, .ofNat 1), none)), zyh1424)]
noncomputable def zyx327d : zKw := (263, 2, 3, 420, zyx327a, zyh1422, zyx327q)
noncomputable def zbzyx327e : Bool := zrunw zprog2 (zovW []) 100000 zcut0 3 420 kX8_passes (zkinL zyx327q) 0 (zargs 0 zyx327a, [], (zyh1422.1, zyh1422.2.1, 0), 0, 0)
/-! X8_passes -/
noncomputable def zyx328a : List zAV := [zyv318, zyv321]
noncomputable def zyx328q : List (Option zAV × zH) := [(some (.inl ((.ofNat 0, .ofNat 0), none)), zyh1426), (some (.inl ((.ofNat 1, .ofNat 1), none)), zyh1427)]
noncomputable def zyx328d : zKw := (263, 2, 3, 420, zyx328a, zyh1425, zyx328q)
noncomputable def zbzyx328e : Bool := zrunw zprog2 (zovW []) 100000 zcut0 3 420 kX8_passes (zkinL zyx328q) 0 (zargs 0 zyx328a, [], (zyh1425.1, zyh1425.2.1, 0), 0, 0)
/-! X8_passes -/
noncomputable def zyx329a : List zAV := [zyv318, zyv321]
noncomputable def zyx329q : List (Option zAV × zH) := [(some (.inl ((.ofNat 0, .ofNat 0), none)), zyh1429), (some (.inl ((.ofNat 1, .ofNat 1), none)), zyh1430)]
noncomputable def zyx329d : zKw := (263, 2, 3, 420, zyx329a, zyh1428, zyx329q)
noncomputable def zbzyx329e : Bool := zrunw zprog2 (zovW []) 100000 zcut0 3 420 kX8_passes (zkinL zyx329q) 0 (zargs 0 zyx329a, [], (zyh1428.1, zyh1428.2.1, 0), 0, 0)
/-! X8_passes -/
noncomputable def zyx330a : List zAV := [zyv318, zyv321]
noncomputable def zyx330q : List (Option zAV × zH) := [(some (.inl ((.ofNat 0, .ofNat 0), none)), zyh1432), (some (.inl ((.ofNat 1, .ofNat 1), none)), zyh1433)]
noncomputable def zyx330d : zKw := (263, 2, 3, 420, zyx330a, zyh1431, zyx330q)
noncomputable def zbzyx330e : Bool := zrunw zprog2 (zovW []) 100000 zcut0 3 420 kX8_passes (zkinL zyx330q) 0 (zargs 0 zyx330a, [], (zyh1431.1, zyh1431.2.1, 0), 0, 0)
/-! X8_passes -/
noncomputable def zyx331a : List zAV := [zyv318, zyv321]
noncomputable def zyx331q : List (Option zAV × zH) := [(some (.inl ((.ofNat 0, .ofNat 0), none)), zyh1435), (some (.inl ((.ofNat 1, .ofNat 1), none)), zyh1436)]
noncomputable def zyx331d : zKw := (263, 2, 3, 420, zyx331a, zyh1434, zyx331q)
noncomputable def zbzyx331e : Bool := zrunw zprog2 (zovW []) 100000 zcut0 3 420 kX8_passes (zkinL zyx331q) 0 (zargs 0 zyx331a, [], (zyh1434.1, zyh1434.2.1, 0), 0, 0)
/-! X8_passes -/
noncomputable def zyx332a : List zAV := [zyv318, zyv321]
noncomputable def zyx332q : List (Option zAV × zH) := [(some (.inl ((.ofNat 0, .ofNat 0), none)), zyh1438), (some (.inl ((.ofNat 1, .ofNat 1), none)), zyh1439)]
noncomputable def zyx332d : zKw := (263, 2, 3, 420, zyx332a, zyh1437, zyx332q)
noncomputable def zbzyx332e : Bool := zrunw zprog2 (zovW []) 100000 zcut0 3 420 kX8_passes (zkinL zyx332q) 0 (zargs 0 zyx332a, [], (zyh1437.1, zyh1437.2.1, 0), 0, 0)
/-! X8_passes -/
noncomputable def zyx333a : List zAV := [zyv318, zyv321]
noncomputable def zyx333q : List (Option zAV × zH) := [(some (.inl ((.ofNat 0, .ofNat 0), none)), zyh1441), (some (.inl ((.ofNat 1, .ofNat 1), none)), zyh1442)]
noncomputable def zyx333d : zKw := (263, 2, 3, 420, zyx333a, zyh1440, zyx333q)
noncomputable def zbzyx333e : Bool := zrunw zprog2 (zovW []) 100000 zcut0 3 420 kX8_passes (zkinL zyx333q) 0 (zargs 0 zyx333a, [], (zyh1440.1, zyh1440.2.1, 0), 0, 0)
/-! X8_passes -/
noncomputable def zyx334a : List zAV := [zyv318, zyv321]
noncomputable def zyx334q : List (Option zAV × zH) := [(some (.inl ((.ofNat 0, .ofNat 0), none)), zyh1444), (some (.inl ((.ofNat 1, .ofNat 1), none)), zyh1445)]
noncomputable def zyx334d : zKw := (263, 2, 3, 420, zyx334a, zyh1443, zyx334q)
noncomputable def zbzyx334e : Bool := zrunw zprog2 (zovW []) 100000 zcut0 3 420 kX8_passes (zkinL zyx334q) 0 (zargs 0 zyx334a, [], (zyh1443.1, zyh1443.2.1, 0), 0, 0)
/-! X8_passes -/
noncomputable def zyx335a : List zAV := [zyv318, zyv321]
noncomputable def zyx335q : List (Option zAV × zH) := [(some (.inl ((.ofNat 0, .ofNat 0), none)), zyh1447), (some (.inl ((.ofNat 1, .ofNat 1), none)), zyh1448)]
noncomputable def zyx335d : zKw := (263, 2, 3, 420, zyx335a, zyh1446, zyx335q)
noncomputable def zbzyx335e : Bool := zrunw zprog2 (zovW []) 100000 zcut0 3 420 kX8_passes (zkinL zyx335q) 0 (zargs 0 zyx335a, [], (zyh1446.1, zyh1446.2.1, 0), 0, 0)
/-! X8_passes -/
noncomputable def zyx336a : List zAV := [zyv318, zyv321]
noncomputable def zyx336q : List (Option zAV × zH) := [(some (.inl ((.ofNat 0, .ofNat 0), none)), zyh1450), (some (.inl ((.ofNat 1, .ofNat 1), none)), zyh1451)]
noncomputable def zyx336d : zKw := (263, 2, 3, 420, zyx336a, zyh1449, zyx336q)
noncomputable def zbzyx336e : Bool := zrunw zprog2 (zovW []) 100000 zcut0 3 420 kX8_passes (zkinL zyx336q) 0 (zargs 0 zyx336a, [], (zyh1449.1, zyh1449.2.1, 0), 0, 0)
/-! X8_passes -/
noncomputable def zyx337a : List zAV := [zyv318, zyv321]
noncomputable def zyx337q : List (Option zAV × zH) := [(some (.inl ((.ofNat 0, .ofNat 0), none)), zyh1453), (some (.inl ((.ofNat 1, .ofNat 1), none)), zyh1454)]
noncomputable def zyx337d : zKw := (263, 2, 3, 420, zyx337a, zyh1452, zyx337q)
noncomputable def zbzyx337e : Bool := zrunw zprog2 (zovW []) 100000 zcut0 3 420 kX8_passes (zkinL zyx337q) 0 (zargs 0 zyx337a, [], (zyh1452.1, zyh1452.2.1, 0), 0, 0)
/-! X8_passes -/
noncomputable def zyx338a : List zAV := [zyv318, zyv321]
noncomputable def zyx338q : List (Option zAV × zH) := [(some (.inl ((.ofNat 0, .ofNat 0), none)), zyh1456), (some (.inl ((.ofNat 1, .ofNat 1), none)), zyh1457)]
noncomputable def zyx338d : zKw := (263, 2, 3, 420, zyx338a, zyh1455, zyx338q)
noncomputable def zbzyx338e : Bool := zrunw zprog2 (zovW []) 100000 zcut0 3 420 kX8_passes (zkinL zyx338q) 0 (zargs 0 zyx338a, [], (zyh1455.1, zyh1455.2.1, 0), 0, 0)
/-! X8_passes -/
noncomputable def zyx339a : List zAV := [zyv318, zyv321]
noncomputable def zyx339q : List (Option zAV × zH) := [(some (.inl ((.ofNat 0, .ofNat 0), none)), zyh1459), (some (.inl ((.ofNat 1, .ofNat 1), none)), zyh1460)]
noncomputable def zyx339d : zKw := (263, 2, 3, 420, zyx339a, zyh1458, zyx339q)
noncomputable def zbzyx339e : Bool := zrunw zprog2 (zovW []) 100000 zcut0 3 420 kX8_passes (zkinL zyx339q) 0 (zargs 0 zyx339a, [], (zyh1458.1, zyh1458.2.1, 0), 0, 0)
/-! X8_passes -/
noncomputable def zyx340a : List zAV := [zyv318, zyv321]
noncomputable def zyx340q : List (Option zAV × zH) := [(some (.inl ((.ofNat 0, .ofNat 0), none)), zyh1462), (some (.inl ((.ofNat 1, .ofNat 1), none)), zyh1463)]
noncomputable def zyx340d : zKw := (263, 2, 3, 420, zyx340a, zyh1461, zyx340q)
noncomputable def zbzyx340e : Bool := zrunw zprog2 (zovW []) 100000 zcut0 3 420 kX8_passes (zkinL zyx340q) 0 (zargs 0 zyx340a, [], (zyh1461.1, zyh1461.2.1, 0), 0, 0)
/-! X8_passes -/
noncomputable def zyx341a : List zAV := [zyv318, zyv321]
noncomputable def zyx341q : List (Option zAV × zH) := [(some (.inl ((.ofNat 0, .ofNat 0), none)), zyh1465), (some (.inl ((.ofNat 1, .ofNat 1), none)), zyh1466)]
noncomputable def zyx341d : zKw := (263, 2, 3, 420, zyx341a, zyh1464, zyx341q)
noncomputable def zbzyx341e : Bool := zrunw zprog2 (zovW []) 100000 zcut0 3 420 kX8_passes (zkinL zyx341q) 0 (zargs 0 zyx341a, [], (zyh1464.1, zyh1464.2.1, 0), 0, 0)
/-! X8_passes -/
noncomputable def zyx342a : List zAV := [zyv318, zyv321]
noncomputable def zyx342q : List (Option zAV × zH) := [(some (.inl ((.ofNat 0, .ofNat 0), none)), zyh1468), (some (.inl ((.ofNat 1, .ofNat 1), none)), zyh1469)]
noncomputable def zyx342d : zKw := (263, 2, 3, 420, zyx342a, zyh1467, zyx342q)
noncomputable def zbzyx342e : Bool := zrunw zprog2 (zovW []) 100000 zcut0 3 420 kX8_passes (zkinL zyx342q) 0 (zargs 0 zyx342a, [], (zyh1467.1, zyh1467.2.1, 0), 0, 0)
/-! X8_passes -/
noncomputable def zyx343a : List zAV := [zyv318, zyv321]
noncomputable def zyx343q : List (Option zAV × zH) := [(some (.inl ((.ofNat 0, .ofNat 0), none)), zyh1471), (some (.inl ((.ofNat 1, .ofNat 1), none)), zyh1472)]
noncomputable def zyx343d : zKw := (263, 2, 3, 420, zyx343a, zyh1470, zyx343q)
noncomputable def zbzyx343e : Bool := zrunw zprog2 (zovW []) 100000 zcut0 3 420 kX8_passes (zkinL zyx343q) 0 (zargs 0 zyx343a, [], (zyh1470.1, zyh1470.2.1, 0), 0, 0)
/-! X8_passes -/
noncomputable def zyx344a : List zAV := [zyv318, zyv321]
noncomputable def zyx344q : List (Option zAV × zH) := [(some (.inl ((.ofNat 0, .ofNat 0), none)), zyh1474), (some (.inl ((.ofNat 1, .ofNat 1), none)), zyh1475)]
noncomputable def zyx344d : zKw := (263, 2, 3, 420, zyx344a, zyh1473, zyx344q)
noncomputable def zbzyx344e : Bool := zrunw zprog2 (zovW []) 100000 zcut0 3 420 kX8_passes (zkinL zyx344q) 0 (zargs 0 zyx344a, [], (zyh1473.1, zyh1473.2.1, 0), 0, 0)
/-! X8_passes -/
noncomputable def zyx345a : List zAV := [zyv318, zyv321]
noncomputable def zyx345q : List (Option zAV × zH) := [(some (.inl ((.ofNat 0, .ofNat 0), none)), zyh1477), (some (.inl ((.ofNat 1, .ofNat 1), none)), zyh1478)]
noncomputable def zyx345d : zKw := (263, 2, 3, 420, zyx345a, zyh1476, zyx345q)
noncomputable def zbzyx345e : Bool := zrunw zprog2 (zovW []) 100000 zcut0 3 420 kX8_passes (zkinL zyx345q) 0 (zargs 0 zyx345a, [], (zyh1476.1, zyh1476.2.1, 0), 0, 0)
/-! X8_passes -/
noncomputable def zyx346a : List zAV := [zyv318, zyv321]
noncomputable def zyx346q : List (Option zAV × zH) := [(some (.inl ((.ofNat 0, .ofNat 0), none)), zyh1480), (some (.inl ((.ofNat 1, .ofNat 1), none)), zyh1481)]
noncomputable def zyx346d : zKw := (263, 2, 3, 420, zyx346a, zyh1479, zyx346q)
noncomputable def zbzyx346e : Bool := zrunw zprog2 (zovW []) 100000 zcut0 3 420 kX8_passes (zkinL zyx346q) 0 (zargs 0 zyx346a, [], (zyh1479.1, zyh1479.2.1, 0), 0, 0)
/-! X8_passes -/
noncomputable def zyx347a : List zAV := [zyv318, zyv321]
noncomputable def zyx347q : List (Option zAV × zH) := [(some (.inl ((.ofNat 0, .ofNat 0), none)), zyh1483)]
noncomputable def zyx347d : zKw := (263, 2, 3, 420, zyx347a, zyh1482, zyx347q)
noncomputable def zbzyx347e : Bool := zrunw zprog2 (zovW []) 100000 zcut0 3 420 kX8_passes (zkinL zyx347q) 0 (zargs 0 zyx347a, [], (zyh1482.1, zyh1482.2.1, 0), 0, 0)
/-! X8_thing -/
noncomputable def zyx348a : List zAV := [.inr (.inr (.inl 94)), .inl ((.ofNat 0, .ofNat 4), none)]
def zyx348r : Option zAV := some (.inl ((.negSucc 2147483647, .ofNat 2147483647), none))
noncomputable def zyx348d : zKw := (292, 4, 4, 540, zyx348a, zyh1482, [(zyx348r, zyh1483)])
noncomputable def zbzyx348e : Bool := zrunw zprog2 (zovW [zyx347d]) 100000 (zcutW [] none ((zyx348r, zyh1483), 4, 540) []) 4 540 k2X8_thing (zkin zyx348r zyh1483) 0 (zargs 0 zyx348a, [], (zyh1482.1, zyh1482.2.1, 0), 0, 0)
/-! X8_product ((('r', 102), 40, 40),) -/
noncomputable def zyx349a : List zAV := [.inr (.inr (.inl 94)), .inl ((.ofNat 0, .ofNat 4), none)]
def zyx349r : Option zAV := some (.inl ((.negSucc 2147483647, .ofNat 2147483647), none))
noncomputable def zyx349q : zPw := ((6, ([(0, .inr (.inr (.inl 94))), (1, .inl ((.ofNat 0, .ofNat 4), some (1, .ofNat 0))), (2, .inl ((.negSucc 2147483647, .ofNat 2147483647), some (2, .ofNat 0)))], [], zyh1483, 0, 0), [], 0), (zyx349r, zyh1483), 5, 660)
noncomputable def zbzyx349c : Bool := zchkX [(94, 15)] zprog2 (zovW [zyx348d]) 100000 k2X8_product [] [zyx349q] [zyx349q]
noncomputable def zyx349d : zKw := (265, 5, 5, 660, zyx349a, zyh1482, [(zyx349r, zyh1483)])
noncomputable def zbzyx349e : Bool := zrunw zprog2 (zovW [zyx348d]) 100000 (zcutW [(94, 15)] none ((zyx349r, zyh1483), 5, 660) [zyx349q]) 5 660 k2X8_product (zkin zyx349r zyh1483) 0 (zargs 0 zyx349a, [], (zyh1482.1, zyh1482.2.1, 0), 0, 0)
/-! X8_sum ((('r', 102), 40, 40),) -/
noncomputable def zyx350a : List zAV := [.inr (.inr (.inl 94)), .inl ((.ofNat 1, .ofNat 4), none)]
def zyx350r : Option zAV := some (.inl ((.negSucc 2147483647, .ofNat 2147483647), none))
noncomputable def zyx350q : zPw := ((6, ([(0, .inr (.inr (.inl 94))), (1, .inl ((.ofNat 0, .ofNat 4), some (1, .ofNat 0))), (2, .inl ((.negSucc 2147483647, .ofNat 2147483647), some (2, .ofNat 0)))], [], zyh1483, 0, 0), [], 0), (zyx350r, zyh1483), 6, 780)
noncomputable def zbzyx350c : Bool := zchkX [(94, 15)] zprog2 (zovW [zyx349d]) 100000 kX8_sum [] [zyx350q] [zyx350q]
noncomputable def zyx350d : zKw := (284, 5, 6, 780, zyx350a, zyh1482, [(zyx350r, zyh1483)])
noncomputable def zbzyx350e : Bool := zrunw zprog2 (zovW [zyx349d]) 100000 (zcutW [(94, 15)] none ((zyx350r, zyh1483), 6, 780) [zyx350q]) 6 780 kX8_sum (zkin zyx350r zyh1483) 0 (zargs 0 zyx350a, [], (zyh1482.1, zyh1482.2.1, 0), 0, 0)
/-! X8_heldBy -/
noncomputable def zyx351a : List zAV := [.inr (.inr (.inl 94)), .inl ((.ofNat 1, .ofNat 4), none)]
def zyx351r : Option zAV := some (.inl ((.negSucc 2147483647, .ofNat 2147483647), none))
noncomputable def zyx351d : zKw := (229, 3, 7, 900, zyx351a, zyh1482, [(zyx351r, zyh1483)])
noncomputable def zbzyx351e : Bool := zrunw zprog2 (zovW [zyx350d, zyx347d]) 100000 (zcutW [] none ((zyx351r, zyh1483), 7, 900) []) 7 900 kX8_heldBy (zkin zyx351r zyh1483) 0 (zargs 0 zyx351a, [], (zyh1482.1, zyh1482.2.1, 0), 0, 0)
/-! X8_oneOf -/
noncomputable def zyx352a : List zAV := [zyv318, zyv360, zyv361]
noncomputable def zyx352q : List (Option zAV × zH) := [(some (.inl ((.ofNat 0, .ofNat 0), none)), zyh1484), (some (.inl ((.negSucc 175, .ofNat 79), none)), zyh1481)]
noncomputable def zyx352d : zKw := (260, 3, 4, 480, zyx352a, zyh1479, zyx352q)
noncomputable def zbzyx352e : Bool := zrunw zprog2 (zovW []) 100000 zcut0 4 480 kX8_oneOf (zkinL zyx352q) 0 (zargs 0 zyx352a, [], (zyh1479.1, zyh1479.2.1, 0), 0, 0)
/-! X8_number -/
noncomputable def zyx353a : List zAV := [.inr (.inr (.inl 94)), .inl ((.ofNat 3, .ofNat 3), none)]
def zyx353r : Option zAV := some (.inl ((.negSucc 2147483647, .ofNat 2147483647), none))
noncomputable def zyx353q0 : zPw := ((11, ([(0, .inr (.inr (.inl 94))), (1, .inl ((.ofNat 3, .ofNat 3), some (1, .ofNat 0))), (2, .inl ((.negSucc 2147483647, .ofNat 2147483647), some (2, .ofNat 0))), (3, .inl ((.ofNat 1, .ofNat 3), some (3, .ofNat 0)))], [], zyh1480, 0, 0), [(3, .negSucc 1)], .ofNat 7), (zyx353r, zyh1480), 5, 600)
noncomputable def zbzyx353c0 : Bool := zchkX [] zprog2 (zovW [zyx352d]) 100000 kX8_number [] [zyx353q0] [zyx353q0]
noncomputable def zyx353d : zKw := (259, 4, 5, 600, zyx353a, zyh1479, [(zyx353r, zyh1480)])
noncomputable def zbzyx353e : Bool := zrunw zprog2 (zovW [zyx352d]) 100000 (zcutW [] none ((zyx353r, zyh1480), 5, 600) [zyx353q0]) 5 600 kX8_number (zkin zyx353r zyh1480) 0 (zargs 0 zyx353a, [], (zyh1479.1, zyh1479.2.1, 0), 0, 0)
/-! X8_thing -/
noncomputable def zyx354a : List zAV := [.inr (.inr (.inl 94)), .inl ((.ofNat 0, .ofNat 4), none)]
def zyx354r : Option zAV := some (.inl ((.negSucc 2147483647, .ofNat 2147483647), none))
noncomputable def zyx354d : zKw := (292, 4, 8, 1020, zyx354a, zyh1479, [(zyx354r, zyh1480)])
noncomputable def zbzyx354e : Bool := zrunw zprog2 (zovW [zyx351d, zyx348d, zyx347d, zyx353d, zyx346d]) 100000 (zcutW [] none ((zyx354r, zyh1480), 8, 1020) []) 8 1020 k2X8_thing (zkin zyx354r zyh1480) 0 (zargs 0 zyx354a, [], (zyh1479.1, zyh1479.2.1, 0), 0, 0)
/-! X8_product ((('r', 102), 40, 39),) -/
noncomputable def zyx355a : List zAV := [.inr (.inr (.inl 94)), .inl ((.ofNat 0, .ofNat 4), none)]
def zyx355r : Option zAV := some (.inl ((.negSucc 2147483647, .ofNat 2147483647), none))
noncomputable def zyx355q : zPw := ((6, ([(0, .inr (.inr (.inl 94))), (1, .inl ((.ofNat 0, .ofNat 4), some (1, .ofNat 0))), (2, .inl ((.negSucc 2147483647, .ofNat 2147483647), some (2, .ofNat 0)))], [], zyh1480, 0, 0), [], 0), (zyx355r, zyh1480), 9, 1140)
noncomputable def zbzyx355c : Bool := zchkX [(94, 15)] zprog2 (zovW [zyx348d, zyx354d]) 100000 k2X8_product [zyx349q] [zyx355q] [zyx355q]
noncomputable def zyx355d : zKw := (265, 5, 9, 1140, zyx355a, zyh1479, [(zyx355r, zyh1480)])
noncomputable def zbzyx355e : Bool := zrunw zprog2 (zovW [zyx348d, zyx354d]) 100000 (zcutW [(94, 15)] none ((zyx355r, zyh1480), 9, 1140) [zyx355q, zyx349q]) 9 1140 k2X8_product (zkin zyx355r zyh1480) 0 (zargs 0 zyx355a, [], (zyh1479.1, zyh1479.2.1, 0), 0, 0)
/-! X8_sum ((('r', 102), 40, 39),) -/
noncomputable def zyx356a : List zAV := [.inr (.inr (.inl 94)), .inl ((.ofNat 1, .ofNat 4), none)]
def zyx356r : Option zAV := some (.inl ((.negSucc 2147483647, .ofNat 2147483647), none))
noncomputable def zyx356q : zPw := ((6, ([(0, .inr (.inr (.inl 94))), (1, .inl ((.ofNat 0, .ofNat 4), some (1, .ofNat 0))), (2, .inl ((.negSucc 2147483647, .ofNat 2147483647), some (2, .ofNat 0)))], [], zyh1480, 0, 0), [], 0), (zyx356r, zyh1480), 10, 1260)
noncomputable def zbzyx356c : Bool := zchkX [(94, 15)] zprog2 (zovW [zyx349d, zyx355d]) 100000 kX8_sum [zyx350q] [zyx356q] [zyx356q]
noncomputable def zyx356d : zKw := (284, 5, 10, 1260, zyx356a, zyh1479, [(zyx356r, zyh1480)])
noncomputable def zbzyx356e : Bool := zrunw zprog2 (zovW [zyx349d, zyx355d]) 100000 (zcutW [(94, 15)] none ((zyx356r, zyh1480), 10, 1260) [zyx356q, zyx350q]) 10 1260 kX8_sum (zkin zyx356r zyh1480) 0 (zargs 0 zyx356a, [], (zyh1479.1, zyh1479.2.1, 0), 0, 0)
/-! X8_heldBy -/
noncomputable def zyx357a : List zAV := [.inr (.inr (.inl 94)), .inl ((.ofNat 1, .ofNat 4), none)]
def zyx357r : Option zAV := some (.inl ((.negSucc 2147483647, .ofNat 2147483647), none))
noncomputable def zyx357d : zKw := (229, 3, 11, 1380, zyx357a, zyh1479, [(zyx357r, zyh1480)])
noncomputable def zbzyx357e : Bool := zrunw zprog2 (zovW [zyx350d, zyx356d, zyx346d]) 100000 (zcutW [] none ((zyx357r, zyh1480), 11, 1380) []) 11 1380 kX8_heldBy (zkin zyx357r zyh1480) 0 (zargs 0 zyx357a, [], (zyh1479.1, zyh1479.2.1, 0), 0, 0)
/-! X8_oneOf -/
noncomputable def zyx358a : List zAV := [zyv318, zyv360, zyv361]
noncomputable def zyx358q : List (Option zAV × zH) := [(some (.inl ((.ofNat 0, .ofNat 0), none)), zyh1485), (some (.inl ((.negSucc 175, .ofNat 79), none)), zyh1478)]
noncomputable def zyx358d : zKw := (260, 3, 4, 480, zyx358a, zyh1476, zyx358q)
noncomputable def zbzyx358e : Bool := zrunw zprog2 (zovW []) 100000 zcut0 4 480 kX8_oneOf (zkinL zyx358q) 0 (zargs 0 zyx358a, [], (zyh1476.1, zyh1476.2.1, 0), 0, 0)
/-! X8_number -/
noncomputable def zyx359a : List zAV := [.inr (.inr (.inl 94)), .inl ((.ofNat 3, .ofNat 3), none)]
def zyx359r : Option zAV := some (.inl ((.negSucc 2147483647, .ofNat 2147483647), none))
noncomputable def zyx359q0 : zPw := ((11, ([(0, .inr (.inr (.inl 94))), (1, .inl ((.ofNat 3, .ofNat 3), some (1, .ofNat 0))), (2, .inl ((.negSucc 2147483647, .ofNat 2147483647), some (2, .ofNat 0))), (3, .inl ((.ofNat 1, .ofNat 3), some (3, .ofNat 0)))], [], zyh1477, 0, 0), [(3, .negSucc 1)], .ofNat 7), (zyx359r, zyh1477), 5, 600)
noncomputable def zbzyx359c0 : Bool := zchkX [] zprog2 (zovW [zyx358d]) 100000 kX8_number [] [zyx359q0] [zyx359q0]
noncomputable def zyx359d : zKw := (259, 4, 5, 600, zyx359a, zyh1476, [(zyx359r, zyh1477)])
noncomputable def zbzyx359e : Bool := zrunw zprog2 (zovW [zyx358d]) 100000 (zcutW [] none ((zyx359r, zyh1477), 5, 600) [zyx359q0]) 5 600 kX8_number (zkin zyx359r zyh1477) 0 (zargs 0 zyx359a, [], (zyh1476.1, zyh1476.2.1, 0), 0, 0)
/-! X8_thing -/
noncomputable def zyx360a : List zAV := [.inr (.inr (.inl 94)), .inl ((.ofNat 0, .ofNat 4), none)]
def zyx360r : Option zAV := some (.inl ((.negSucc 2147483647, .ofNat 2147483647), none))
noncomputable def zyx360d : zKw := (292, 4, 12, 1500, zyx360a, zyh1476, [(zyx360r, zyh1477)])
noncomputable def zbzyx360e : Bool := zrunw zprog2 (zovW [zyx357d, zyx354d, zyx346d, zyx359d, zyx345d]) 100000 (zcutW [] none ((zyx360r, zyh1477), 12, 1500) []) 12 1500 k2X8_thing (zkin zyx360r zyh1477) 0 (zargs 0 zyx360a, [], (zyh1476.1, zyh1476.2.1, 0), 0, 0)
/-! X8_product ((('r', 102), 40, 38),) -/
noncomputable def zyx361a : List zAV := [.inr (.inr (.inl 94)), .inl ((.ofNat 0, .ofNat 4), none)]
def zyx361r : Option zAV := some (.inl ((.negSucc 2147483647, .ofNat 2147483647), none))
noncomputable def zyx361q : zPw := ((6, ([(0, .inr (.inr (.inl 94))), (1, .inl ((.ofNat 0, .ofNat 4), some (1, .ofNat 0))), (2, .inl ((.negSucc 2147483647, .ofNat 2147483647), some (2, .ofNat 0)))], [], zyh1477, 0, 0), [], 0), (zyx361r, zyh1477), 13, 1620)
noncomputable def zbzyx361c : Bool := zchkX [(94, 15)] zprog2 (zovW [zyx354d, zyx360d]) 100000 k2X8_product [zyx355q, zyx349q] [zyx361q] [zyx361q]
noncomputable def zyx361d : zKw := (265, 5, 13, 1620, zyx361a, zyh1476, [(zyx361r, zyh1477)])
noncomputable def zbzyx361e : Bool := zrunw zprog2 (zovW [zyx354d, zyx360d]) 100000 (zcutW [(94, 15)] none ((zyx361r, zyh1477), 13, 1620) [zyx361q, zyx355q, zyx349q]) 13 1620 k2X8_product (zkin zyx361r zyh1477) 0 (zargs 0 zyx361a, [], (zyh1476.1, zyh1476.2.1, 0), 0, 0)
/-! X8_sum ((('r', 102), 40, 38),) -/
noncomputable def zyx362a : List zAV := [.inr (.inr (.inl 94)), .inl ((.ofNat 1, .ofNat 4), none)]
def zyx362r : Option zAV := some (.inl ((.negSucc 2147483647, .ofNat 2147483647), none))
noncomputable def zyx362q : zPw := ((6, ([(0, .inr (.inr (.inl 94))), (1, .inl ((.ofNat 0, .ofNat 4), some (1, .ofNat 0))), (2, .inl ((.negSucc 2147483647, .ofNat 2147483647), some (2, .ofNat 0)))], [], zyh1477, 0, 0), [], 0), (zyx362r, zyh1477), 14, 1740)
noncomputable def zbzyx362c : Bool := zchkX [(94, 15)] zprog2 (zovW [zyx355d, zyx361d]) 100000 kX8_sum [zyx356q, zyx350q] [zyx362q] [zyx362q]
noncomputable def zyx362d : zKw := (284, 5, 14, 1740, zyx362a, zyh1476, [(zyx362r, zyh1477)])
noncomputable def zbzyx362e : Bool := zrunw zprog2 (zovW [zyx355d, zyx361d]) 100000 (zcutW [(94, 15)] none ((zyx362r, zyh1477), 14, 1740) [zyx362q, zyx356q, zyx350q]) 14 1740 kX8_sum (zkin zyx362r zyh1477) 0 (zargs 0 zyx362a, [], (zyh1476.1, zyh1476.2.1, 0), 0, 0)
/-! X8_heldBy -/
noncomputable def zyx363a : List zAV := [.inr (.inr (.inl 94)), .inl ((.ofNat 1, .ofNat 4), none)]
def zyx363r : Option zAV := some (.inl ((.negSucc 2147483647, .ofNat 2147483647), none))
noncomputable def zyx363d : zKw := (229, 3, 15, 1860, zyx363a, zyh1476, [(zyx363r, zyh1477)])
noncomputable def zbzyx363e : Bool := zrunw zprog2 (zovW [zyx356d, zyx362d, zyx345d]) 100000 (zcutW [] none ((zyx363r, zyh1477), 15, 1860) []) 15 1860 kX8_heldBy (zkin zyx363r zyh1477) 0 (zargs 0 zyx363a, [], (zyh1476.1, zyh1476.2.1, 0), 0, 0)
/-! X8_oneOf -/
noncomputable def zyx364a : List zAV := [zyv318, zyv360, zyv361]
noncomputable def zyx364q : List (Option zAV × zH) := [(some (.inl ((.ofNat 0, .ofNat 0), none)), zyh1486), (some (.inl ((.negSucc 175, .ofNat 79), none)), zyh1475)]
noncomputable def zyx364d : zKw := (260, 3, 4, 480, zyx364a, zyh1473, zyx364q)
noncomputable def zbzyx364e : Bool := zrunw zprog2 (zovW []) 100000 zcut0 4 480 kX8_oneOf (zkinL zyx364q) 0 (zargs 0 zyx364a, [], (zyh1473.1, zyh1473.2.1, 0), 0, 0)
/-! X8_number -/
noncomputable def zyx365a : List zAV := [.inr (.inr (.inl 94)), .inl ((.ofNat 3, .ofNat 3), none)]
def zyx365r : Option zAV := some (.inl ((.negSucc 2147483647, .ofNat 2147483647), none))
noncomputable def zyx365q0 : zPw := ((11, ([(0, .inr (.inr (.inl 94))), (1, .inl ((.ofNat 3, .ofNat 3), some (1, .ofNat 0))), (2, .inl ((.negSucc 2147483647, .ofNat 2147483647), some (2, .ofNat 0))), (3, .inl ((.ofNat 1, .ofNat 3), some (3, .ofNat 0)))], [], zyh1474, 0, 0), [(3, .negSucc 1)], .ofNat 7), (zyx365r, zyh1474), 5, 600)
noncomputable def zbzyx365c0 : Bool := zchkX [] zprog2 (zovW [zyx364d]) 100000 kX8_number [] [zyx365q0] [zyx365q0]
noncomputable def zyx365d : zKw := (259, 4, 5, 600, zyx365a, zyh1473, [(zyx365r, zyh1474)])
noncomputable def zbzyx365e : Bool := zrunw zprog2 (zovW [zyx364d]) 100000 (zcutW [] none ((zyx365r, zyh1474), 5, 600) [zyx365q0]) 5 600 kX8_number (zkin zyx365r zyh1474) 0 (zargs 0 zyx365a, [], (zyh1473.1, zyh1473.2.1, 0), 0, 0)
/-! X8_thing -/
noncomputable def zyx366a : List zAV := [.inr (.inr (.inl 94)), .inl ((.ofNat 0, .ofNat 4), none)]
def zyx366r : Option zAV := some (.inl ((.negSucc 2147483647, .ofNat 2147483647), none))
noncomputable def zyx366d : zKw := (292, 4, 16, 1980, zyx366a, zyh1473, [(zyx366r, zyh1474)])
noncomputable def zbzyx366e : Bool := zrunw zprog2 (zovW [zyx363d, zyx360d, zyx345d, zyx365d, zyx344d]) 100000 (zcutW [] none ((zyx366r, zyh1474), 16, 1980) []) 16 1980 k2X8_thing (zkin zyx366r zyh1474) 0 (zargs 0 zyx366a, [], (zyh1473.1, zyh1473.2.1, 0), 0, 0)
/-! X8_product ((('r', 102), 40, 37),) -/
noncomputable def zyx367a : List zAV := [.inr (.inr (.inl 94)), .inl ((.ofNat 0, .ofNat 4), none)]
def zyx367r : Option zAV := some (.inl ((.negSucc 2147483647, .ofNat 2147483647), none))
noncomputable def zyx367q : zPw := ((6, ([(0, .inr (.inr (.inl 94))), (1, .inl ((.ofNat 0, .ofNat 4), some (1, .ofNat 0))), (2, .inl ((.negSucc 2147483647, .ofNat 2147483647), some (2, .ofNat 0)))], [], zyh1474, 0, 0), [], 0), (zyx367r, zyh1474), 17, 2100)
noncomputable def zbzyx367c : Bool := zchkX [(94, 15)] zprog2 (zovW [zyx360d, zyx366d]) 100000 k2X8_product [zyx361q, zyx355q, zyx349q] [zyx367q] [zyx367q]
noncomputable def zyx367d : zKw := (265, 5, 17, 2100, zyx367a, zyh1473, [(zyx367r, zyh1474)])
noncomputable def zbzyx367e : Bool := zrunw zprog2 (zovW [zyx360d, zyx366d]) 100000 (zcutW [(94, 15)] none ((zyx367r, zyh1474), 17, 2100) [zyx367q, zyx361q, zyx355q, zyx349q]) 17 2100 k2X8_product (zkin zyx367r zyh1474) 0 (zargs 0 zyx367a, [], (zyh1473.1, zyh1473.2.1, 0), 0, 0)
/-! X8_sum ((('r', 102), 40, 37),) -/
noncomputable def zyx368a : List zAV := [.inr (.inr (.inl 94)), .inl ((.ofNat 1, .ofNat 4), none)]
def zyx368r : Option zAV := some (.inl ((.negSucc 2147483647, .ofNat 2147483647), none))
noncomputable def zyx368q : zPw := ((6, ([(0, .inr (.inr (.inl 94))), (1, .inl ((.ofNat 0, .ofNat 4), some (1, .ofNat 0))), (2, .inl ((.negSucc 2147483647, .ofNat 2147483647), some (2, .ofNat 0)))], [], zyh1474, 0, 0), [], 0), (zyx368r, zyh1474), 18, 2220)
noncomputable def zbzyx368c : Bool := zchkX [(94, 15)] zprog2 (zovW [zyx361d, zyx367d]) 100000 kX8_sum [zyx362q, zyx356q, zyx350q] [zyx368q] [zyx368q]
noncomputable def zyx368d : zKw := (284, 5, 18, 2220, zyx368a, zyh1473, [(zyx368r, zyh1474)])
noncomputable def zbzyx368e : Bool := zrunw zprog2 (zovW [zyx361d, zyx367d]) 100000 (zcutW [(94, 15)] none ((zyx368r, zyh1474), 18, 2220) [zyx368q, zyx362q, zyx356q, zyx350q]) 18 2220 kX8_sum (zkin zyx368r zyh1474) 0 (zargs 0 zyx368a, [], (zyh1473.1, zyh1473.2.1, 0), 0, 0)
/-! X8_heldBy -/
noncomputable def zyx369a : List zAV := [.inr (.inr (.inl 94)), .inl ((.ofNat 1, .ofNat 4), none)]
def zyx369r : Option zAV := some (.inl ((.negSucc 2147483647, .ofNat 2147483647), none))
noncomputable def zyx369d : zKw := (229, 3, 19, 2340, zyx369a, zyh1473, [(zyx369r, zyh1474)])
noncomputable def zbzyx369e : Bool := zrunw zprog2 (zovW [zyx362d, zyx368d, zyx344d]) 100000 (zcutW [] none ((zyx369r, zyh1474), 19, 2340) []) 19 2340 kX8_heldBy (zkin zyx369r zyh1474) 0 (zargs 0 zyx369a, [], (zyh1473.1, zyh1473.2.1, 0), 0, 0)
/-! X8_oneOf -/
noncomputable def zyx370a : List zAV := [zyv318, zyv360, zyv361]
noncomputable def zyx370q : List (Option zAV × zH) := [(some (.inl ((.ofNat 0, .ofNat 0), none)), zyh1487), (some (.inl ((.negSucc 175, .ofNat 79), none)), zyh1472)]
noncomputable def zyx370d : zKw := (260, 3, 4, 480, zyx370a, zyh1470, zyx370q)
noncomputable def zbzyx370e : Bool := zrunw zprog2 (zovW []) 100000 zcut0 4 480 kX8_oneOf (zkinL zyx370q) 0 (zargs 0 zyx370a, [], (zyh1470.1, zyh1470.2.1, 0), 0, 0)
/-! X8_number -/
noncomputable def zyx371a : List zAV := [.inr (.inr (.inl 94)), .inl ((.ofNat 3, .ofNat 3), none)]
def zyx371r : Option zAV := some (.inl ((.negSucc 2147483647, .ofNat 2147483647), none))
noncomputable def zyx371q0 : zPw := ((11, ([(0, .inr (.inr (.inl 94))), (1, .inl ((.ofNat 3, .ofNat 3), some (1, .ofNat 0))), (2, .inl ((.negSucc 2147483647, .ofNat 2147483647), some (2, .ofNat 0))), (3, .inl ((.ofNat 1, .ofNat 3), some (3, .ofNat 0)))], [], zyh1471, 0, 0), [(3, .negSucc 1)], .ofNat 7), (zyx371r, zyh1471), 5, 600)
noncomputable def zbzyx371c0 : Bool := zchkX [] zprog2 (zovW [zyx370d]) 100000 kX8_number [] [zyx371q0] [zyx371q0]
noncomputable def zyx371d : zKw := (259, 4, 5, 600, zyx371a, zyh1470, [(zyx371r, zyh1471)])
noncomputable def zbzyx371e : Bool := zrunw zprog2 (zovW [zyx370d]) 100000 (zcutW [] none ((zyx371r, zyh1471), 5, 600) [zyx371q0]) 5 600 kX8_number (zkin zyx371r zyh1471) 0 (zargs 0 zyx371a, [], (zyh1470.1, zyh1470.2.1, 0), 0, 0)
/-! X8_thing -/
noncomputable def zyx372a : List zAV := [.inr (.inr (.inl 94)), .inl ((.ofNat 0, .ofNat 4), none)]
def zyx372r : Option zAV := some (.inl ((.negSucc 2147483647, .ofNat 2147483647), none))
noncomputable def zyx372d : zKw := (292, 4, 20, 2460, zyx372a, zyh1470, [(zyx372r, zyh1471)])
noncomputable def zbzyx372e : Bool := zrunw zprog2 (zovW [zyx369d, zyx366d, zyx344d, zyx371d, zyx343d]) 100000 (zcutW [] none ((zyx372r, zyh1471), 20, 2460) []) 20 2460 k2X8_thing (zkin zyx372r zyh1471) 0 (zargs 0 zyx372a, [], (zyh1470.1, zyh1470.2.1, 0), 0, 0)
noncomputable def zyg23 : List Bool := [zbzyx324e, zbzyx325e, zbzyx326e, zbzyx327e, zbzyx328e, zbzyx329e, zbzyx330e, zbzyx331e, zbzyx332e, zbzyx333e, zbzyx334e, zbzyx335e, zbzyx336e, zbzyx337e, zbzyx338e, zbzyx339e, zbzyx340e, zbzyx341e, zbzyx342e, zbzyx343e, zbzyx344e, zbzyx345e, zbzyx346e, zbzyx347e, zbzyx348e, zbzyx349c, zbzyx349e, zbzyx350c, zbzyx350e, zbzyx351e, zbzyx352e, zbzyx353c0, zbzyx353e, zbzyx354e, zbzyx355c, zbzyx355e, zbzyx356c, zbzyx356e, zbzyx357e, zbzyx358e, zbzyx359c0, zbzyx359e, zbzyx360e, zbzyx361c, zbzyx361e, zbzyx362c, zbzyx362e, zbzyx363e, zbzyx364e, zbzyx365c0, zbzyx365e, zbzyx366e, zbzyx367c, zbzyx367e, zbzyx368c, zbzyx368e, zbzyx369e, zbzyx370e, zbzyx371c0, zbzyx371e, zbzyx372e]
set_option maxRecDepth 100000 in
theorem zyg23_ok : zall (fun b => b) zyg23 = true := by decide +kernel
theorem zyx324e : zrunw zprog2 (zovW []) 100000 zcut0 3 420 kX8_passes (zkinL zyx324q) 0 (zargs 0 zyx324a, [], (zyh1413.1, zyh1413.2.1, 0), 0, 0) = true := zall_ok zyg23_ok (k := 0) (a := zbzyx324e) rfl
theorem zyx324 {l : Launch} {D : va_G} {tys : List (ClassId × FieldType)} {o : zO} {z : Nat} (E : zEnv tys) : zKnW l D vwCl tys o z (zXX o z) zTs zprog2 zyx324d :=
  zkn_ml E (fun g => fun _ h => absurd h List.not_mem_nil) (show zget zprog2 263 = some mX8_passes from rfl) rfl (by decide) (by decide) (by decide) (by decide) zyx324e
theorem zyx325e : zrunw zprog2 (zovW []) 100000 zcut0 3 420 kX8_passes (zkinL zyx325q) 0 (zargs 0 zyx325a, [], (zyh1416.1, zyh1416.2.1, 0), 0, 0) = true := zall_ok zyg23_ok (k := 1) (a := zbzyx325e) rfl
theorem zyx325 {l : Launch} {D : va_G} {tys : List (ClassId × FieldType)} {o : zO} {z : Nat} (E : zEnv tys) : zKnW l D vwCl tys o z (zXX o z) zTs zprog2 zyx325d :=
  zkn_ml E (fun g => fun _ h => absurd h List.not_mem_nil) (show zget zprog2 263 = some mX8_passes from rfl) rfl (by decide) (by decide) (by decide) (by decide) zyx325e
theorem zyx326e : zrunw zprog2 (zovW []) 100000 zcut0 3 420 kX8_passes (zkinL zyx326q) 0 (zargs 0 zyx326a, [], (zyh1419.1, zyh1419.2.1, 0), 0, 0) = true := zall_ok zyg23_ok (k := 2) (a := zbzyx326e) rfl
theorem zyx326 {l : Launch} {D : va_G} {tys : List (ClassId × FieldType)} {o : zO} {z : Nat} (E : zEnv tys) : zKnW l D vwCl tys o z (zXX o z) zTs zprog2 zyx326d :=
  zkn_ml E (fun g => fun _ h => absurd h List.not_mem_nil) (show zget zprog2 263 = some mX8_passes from rfl) rfl (by decide) (by decide) (by decide) (by decide) zyx326e
theorem zyx327e : zrunw zprog2 (zovW []) 100000 zcut0 3 420 kX8_passes (zkinL zyx327q) 0 (zargs 0 zyx327a, [], (zyh1422.1, zyh1422.2.1, 0), 0, 0) = true := zall_ok zyg23_ok (k := 3) (a := zbzyx327e) rfl
theorem zyx327 {l : Launch} {D : va_G} {tys : List (ClassId × FieldType)} {o : zO} {z : Nat} (E : zEnv tys) : zKnW l D vwCl tys o z (zXX o z) zTs zprog2 zyx327d :=
  zkn_ml E (fun g => fun _ h => absurd h List.not_mem_nil) (show zget zprog2 263 = some mX8_passes from rfl) rfl (by decide) (by decide) (by decide) (by decide) zyx327e
theorem zyx328e : zrunw zprog2 (zovW []) 100000 zcut0 3 420 kX8_passes (zkinL zyx328q) 0 (zargs 0 zyx328a, [], (zyh1425.1, zyh1425.2.1, 0), 0, 0) = true := zall_ok zyg23_ok (k := 4) (a := zbzyx328e) rfl
theorem zyx328 {l : Launch} {D : va_G} {tys : List (ClassId × FieldType)} {o : zO} {z : Nat} (E : zEnv tys) : zKnW l D vwCl tys o z (zXX o z) zTs zprog2 zyx328d :=
  zkn_ml E (fun g => fun _ h => absurd h List.not_mem_nil) (show zget zprog2 263 = some mX8_passes from rfl) rfl (by decide) (by decide) (by decide) (by decide) zyx328e
theorem zyx329e : zrunw zprog2 (zovW []) 100000 zcut0 3 420 kX8_passes (zkinL zyx329q) 0 (zargs 0 zyx329a, [], (zyh1428.1, zyh1428.2.1, 0), 0, 0) = true := zall_ok zyg23_ok (k := 5) (a := zbzyx329e) rfl
theorem zyx329 {l : Launch} {D : va_G} {tys : List (ClassId × FieldType)} {o : zO} {z : Nat} (E : zEnv tys) : zKnW l D vwCl tys o z (zXX o z) zTs zprog2 zyx329d :=
  zkn_ml E (fun g => fun _ h => absurd h List.not_mem_nil) (show zget zprog2 263 = some mX8_passes from rfl) rfl (by decide) (by decide) (by decide) (by decide) zyx329e
theorem zyx330e : zrunw zprog2 (zovW []) 100000 zcut0 3 420 kX8_passes (zkinL zyx330q) 0 (zargs 0 zyx330a, [], (zyh1431.1, zyh1431.2.1, 0), 0, 0) = true := zall_ok zyg23_ok (k := 6) (a := zbzyx330e) rfl
theorem zyx330 {l : Launch} {D : va_G} {tys : List (ClassId × FieldType)} {o : zO} {z : Nat} (E : zEnv tys) : zKnW l D vwCl tys o z (zXX o z) zTs zprog2 zyx330d :=
  zkn_ml E (fun g => fun _ h => absurd h List.not_mem_nil) (show zget zprog2 263 = some mX8_passes from rfl) rfl (by decide) (by decide) (by decide) (by decide) zyx330e
theorem zyx331e : zrunw zprog2 (zovW []) 100000 zcut0 3 420 kX8_passes (zkinL zyx331q) 0 (zargs 0 zyx331a, [], (zyh1434.1, zyh1434.2.1, 0), 0, 0) = true := zall_ok zyg23_ok (k := 7) (a := zbzyx331e) rfl
theorem zyx331 {l : Launch} {D : va_G} {tys : List (ClassId × FieldType)} {o : zO} {z : Nat} (E : zEnv tys) : zKnW l D vwCl tys o z (zXX o z) zTs zprog2 zyx331d :=
  zkn_ml E (fun g => fun _ h => absurd h List.not_mem_nil) (show zget zprog2 263 = some mX8_passes from rfl) rfl (by decide) (by decide) (by decide) (by decide) zyx331e
theorem zyx332e : zrunw zprog2 (zovW []) 100000 zcut0 3 420 kX8_passes (zkinL zyx332q) 0 (zargs 0 zyx332a, [], (zyh1437.1, zyh1437.2.1, 0), 0, 0) = true := zall_ok zyg23_ok (k := 8) (a := zbzyx332e) rfl
theorem zyx332 {l : Launch} {D : va_G} {tys : List (ClassId × FieldType)} {o : zO} {z : Nat} (E : zEnv tys) : zKnW l D vwCl tys o z (zXX o z) zTs zprog2 zyx332d :=
  zkn_ml E (fun g => fun _ h => absurd h List.not_mem_nil) (show zget zprog2 263 = some mX8_passes from rfl) rfl (by decide) (by decide) (by decide) (by decide) zyx332e
theorem zyx333e : zrunw zprog2 (zovW []) 100000 zcut0 3 420 kX8_passes (zkinL zyx333q) 0 (zargs 0 zyx333a, [], (zyh1440.1, zyh1440.2.1, 0), 0, 0) = true := zall_ok zyg23_ok (k := 9) (a := zbzyx333e) rfl
theorem zyx333 {l : Launch} {D : va_G} {tys : List (ClassId × FieldType)} {o : zO} {z : Nat} (E : zEnv tys) : zKnW l D vwCl tys o z (zXX o z) zTs zprog2 zyx333d :=
  zkn_ml E (fun g => fun _ h => absurd h List.not_mem_nil) (show zget zprog2 263 = some mX8_passes from rfl) rfl (by decide) (by decide) (by decide) (by decide) zyx333e
theorem zyx334e : zrunw zprog2 (zovW []) 100000 zcut0 3 420 kX8_passes (zkinL zyx334q) 0 (zargs 0 zyx334a, [], (zyh1443.1, zyh1443.2.1, 0), 0, 0) = true := zall_ok zyg23_ok (k := 10) (a := zbzyx334e) rfl
theorem zyx334 {l : Launch} {D : va_G} {tys : List (ClassId × FieldType)} {o : zO} {z : Nat} (E : zEnv tys) : zKnW l D vwCl tys o z (zXX o z) zTs zprog2 zyx334d :=
  zkn_ml E (fun g => fun _ h => absurd h List.not_mem_nil) (show zget zprog2 263 = some mX8_passes from rfl) rfl (by decide) (by decide) (by decide) (by decide) zyx334e
theorem zyx335e : zrunw zprog2 (zovW []) 100000 zcut0 3 420 kX8_passes (zkinL zyx335q) 0 (zargs 0 zyx335a, [], (zyh1446.1, zyh1446.2.1, 0), 0, 0) = true := zall_ok zyg23_ok (k := 11) (a := zbzyx335e) rfl
theorem zyx335 {l : Launch} {D : va_G} {tys : List (ClassId × FieldType)} {o : zO} {z : Nat} (E : zEnv tys) : zKnW l D vwCl tys o z (zXX o z) zTs zprog2 zyx335d :=
  zkn_ml E (fun g => fun _ h => absurd h List.not_mem_nil) (show zget zprog2 263 = some mX8_passes from rfl) rfl (by decide) (by decide) (by decide) (by decide) zyx335e
theorem zyx336e : zrunw zprog2 (zovW []) 100000 zcut0 3 420 kX8_passes (zkinL zyx336q) 0 (zargs 0 zyx336a, [], (zyh1449.1, zyh1449.2.1, 0), 0, 0) = true := zall_ok zyg23_ok (k := 12) (a := zbzyx336e) rfl
theorem zyx336 {l : Launch} {D : va_G} {tys : List (ClassId × FieldType)} {o : zO} {z : Nat} (E : zEnv tys) : zKnW l D vwCl tys o z (zXX o z) zTs zprog2 zyx336d :=
  zkn_ml E (fun g => fun _ h => absurd h List.not_mem_nil) (show zget zprog2 263 = some mX8_passes from rfl) rfl (by decide) (by decide) (by decide) (by decide) zyx336e
theorem zyx337e : zrunw zprog2 (zovW []) 100000 zcut0 3 420 kX8_passes (zkinL zyx337q) 0 (zargs 0 zyx337a, [], (zyh1452.1, zyh1452.2.1, 0), 0, 0) = true := zall_ok zyg23_ok (k := 13) (a := zbzyx337e) rfl
theorem zyx337 {l : Launch} {D : va_G} {tys : List (ClassId × FieldType)} {o : zO} {z : Nat} (E : zEnv tys) : zKnW l D vwCl tys o z (zXX o z) zTs zprog2 zyx337d :=
  zkn_ml E (fun g => fun _ h => absurd h List.not_mem_nil) (show zget zprog2 263 = some mX8_passes from rfl) rfl (by decide) (by decide) (by decide) (by decide) zyx337e
theorem zyx338e : zrunw zprog2 (zovW []) 100000 zcut0 3 420 kX8_passes (zkinL zyx338q) 0 (zargs 0 zyx338a, [], (zyh1455.1, zyh1455.2.1, 0), 0, 0) = true := zall_ok zyg23_ok (k := 14) (a := zbzyx338e) rfl
theorem zyx338 {l : Launch} {D : va_G} {tys : List (ClassId × FieldType)} {o : zO} {z : Nat} (E : zEnv tys) : zKnW l D vwCl tys o z (zXX o z) zTs zprog2 zyx338d :=
  zkn_ml E (fun g => fun _ h => absurd h List.not_mem_nil) (show zget zprog2 263 = some mX8_passes from rfl) rfl (by decide) (by decide) (by decide) (by decide) zyx338e
theorem zyx339e : zrunw zprog2 (zovW []) 100000 zcut0 3 420 kX8_passes (zkinL zyx339q) 0 (zargs 0 zyx339a, [], (zyh1458.1, zyh1458.2.1, 0), 0, 0) = true := zall_ok zyg23_ok (k := 15) (a := zbzyx339e) rfl
theorem zyx339 {l : Launch} {D : va_G} {tys : List (ClassId × FieldType)} {o : zO} {z : Nat} (E : zEnv tys) : zKnW l D vwCl tys o z (zXX o z) zTs zprog2 zyx339d :=
  zkn_ml E (fun g => fun _ h => absurd h List.not_mem_nil) (show zget zprog2 263 = some mX8_passes from rfl) rfl (by decide) (by decide) (by decide) (by decide) zyx339e
theorem zyx340e : zrunw zprog2 (zovW []) 100000 zcut0 3 420 kX8_passes (zkinL zyx340q) 0 (zargs 0 zyx340a, [], (zyh1461.1, zyh1461.2.1, 0), 0, 0) = true := zall_ok zyg23_ok (k := 16) (a := zbzyx340e) rfl
theorem zyx340 {l : Launch} {D : va_G} {tys : List (ClassId × FieldType)} {o : zO} {z : Nat} (E : zEnv tys) : zKnW l D vwCl tys o z (zXX o z) zTs zprog2 zyx340d :=
  zkn_ml E (fun g => fun _ h => absurd h List.not_mem_nil) (show zget zprog2 263 = some mX8_passes from rfl) rfl (by decide) (by decide) (by decide) (by decide) zyx340e
theorem zyx341e : zrunw zprog2 (zovW []) 100000 zcut0 3 420 kX8_passes (zkinL zyx341q) 0 (zargs 0 zyx341a, [], (zyh1464.1, zyh1464.2.1, 0), 0, 0) = true := zall_ok zyg23_ok (k := 17) (a := zbzyx341e) rfl
theorem zyx341 {l : Launch} {D : va_G} {tys : List (ClassId × FieldType)} {o : zO} {z : Nat} (E : zEnv tys) : zKnW l D vwCl tys o z (zXX o z) zTs zprog2 zyx341d :=
  zkn_ml E (fun g => fun _ h => absurd h List.not_mem_nil) (show zget zprog2 263 = some mX8_passes from rfl) rfl (by decide) (by decide) (by decide) (by decide) zyx341e
theorem zyx342e : zrunw zprog2 (zovW []) 100000 zcut0 3 420 kX8_passes (zkinL zyx342q) 0 (zargs 0 zyx342a, [], (zyh1467.1, zyh1467.2.1, 0), 0, 0) = true := zall_ok zyg23_ok (k := 18) (a := zbzyx342e) rfl
theorem zyx342 {l : Launch} {D : va_G} {tys : List (ClassId × FieldType)} {o : zO} {z : Nat} (E : zEnv tys) : zKnW l D vwCl tys o z (zXX o z) zTs zprog2 zyx342d :=
  zkn_ml E (fun g => fun _ h => absurd h List.not_mem_nil) (show zget zprog2 263 = some mX8_passes from rfl) rfl (by decide) (by decide) (by decide) (by decide) zyx342e
theorem zyx343e : zrunw zprog2 (zovW []) 100000 zcut0 3 420 kX8_passes (zkinL zyx343q) 0 (zargs 0 zyx343a, [], (zyh1470.1, zyh1470.2.1, 0), 0, 0) = true := zall_ok zyg23_ok (k := 19) (a := zbzyx343e) rfl
theorem zyx343 {l : Launch} {D : va_G} {tys : List (ClassId × FieldType)} {o : zO} {z : Nat} (E : zEnv tys) : zKnW l D vwCl tys o z (zXX o z) zTs zprog2 zyx343d :=
  zkn_ml E (fun g => fun _ h => absurd h List.not_mem_nil) (show zget zprog2 263 = some mX8_passes from rfl) rfl (by decide) (by decide) (by decide) (by decide) zyx343e
theorem zyx344e : zrunw zprog2 (zovW []) 100000 zcut0 3 420 kX8_passes (zkinL zyx344q) 0 (zargs 0 zyx344a, [], (zyh1473.1, zyh1473.2.1, 0), 0, 0) = true := zall_ok zyg23_ok (k := 20) (a := zbzyx344e) rfl
theorem zyx344 {l : Launch} {D : va_G} {tys : List (ClassId × FieldType)} {o : zO} {z : Nat} (E : zEnv tys) : zKnW l D vwCl tys o z (zXX o z) zTs zprog2 zyx344d :=
  zkn_ml E (fun g => fun _ h => absurd h List.not_mem_nil) (show zget zprog2 263 = some mX8_passes from rfl) rfl (by decide) (by decide) (by decide) (by decide) zyx344e
theorem zyx345e : zrunw zprog2 (zovW []) 100000 zcut0 3 420 kX8_passes (zkinL zyx345q) 0 (zargs 0 zyx345a, [], (zyh1476.1, zyh1476.2.1, 0), 0, 0) = true := zall_ok zyg23_ok (k := 21) (a := zbzyx345e) rfl
theorem zyx345 {l : Launch} {D : va_G} {tys : List (ClassId × FieldType)} {o : zO} {z : Nat} (E : zEnv tys) : zKnW l D vwCl tys o z (zXX o z) zTs zprog2 zyx345d :=
  zkn_ml E (fun g => fun _ h => absurd h List.not_mem_nil) (show zget zprog2 263 = some mX8_passes from rfl) rfl (by decide) (by decide) (by decide) (by decide) zyx345e
theorem zyx346e : zrunw zprog2 (zovW []) 100000 zcut0 3 420 kX8_passes (zkinL zyx346q) 0 (zargs 0 zyx346a, [], (zyh1479.1, zyh1479.2.1, 0), 0, 0) = true := zall_ok zyg23_ok (k := 22) (a := zbzyx346e) rfl
theorem zyx346 {l : Launch} {D : va_G} {tys : List (ClassId × FieldType)} {o : zO} {z : Nat} (E : zEnv tys) : zKnW l D vwCl tys o z (zXX o z) zTs zprog2 zyx346d :=
  zkn_ml E (fun g => fun _ h => absurd h List.not_mem_nil) (show zget zprog2 263 = some mX8_passes from rfl) rfl (by decide) (by decide) (by decide) (by decide) zyx346e
theorem zyx347e : zrunw zprog2 (zovW []) 100000 zcut0 3 420 kX8_passes (zkinL zyx347q) 0 (zargs 0 zyx347a, [], (zyh1482.1, zyh1482.2.1, 0), 0, 0) = true := zall_ok zyg23_ok (k := 23) (a := zbzyx347e) rfl
theorem zyx347 {l : Launch} {D : va_G} {tys : List (ClassId × FieldType)} {o : zO} {z : Nat} (E : zEnv tys) : zKnW l D vwCl tys o z (zXX o z) zTs zprog2 zyx347d :=
  zkn_ml E (fun g => fun _ h => absurd h List.not_mem_nil) (show zget zprog2 263 = some mX8_passes from rfl) rfl (by decide) (by decide) (by decide) (by decide) zyx347e
theorem zyx348e : zrunw zprog2 (zovW [zyx347d]) 100000 (zcutW [] none ((zyx348r, zyh1483), 4, 540) []) 4 540 k2X8_thing (zkin zyx348r zyh1483) 0 (zargs 0 zyx348a, [], (zyh1482.1, zyh1482.2.1, 0), 0, 0) = true := zall_ok zyg23_ok (k := 24) (a := zbzyx348e) rfl
theorem zyx348 {l : Launch} {D : va_G} {tys : List (ClassId × FieldType)} {o : zO} {z : Nat} (E : zEnv tys) : zKnW l D vwCl tys o z (zXX o z) zTs zprog2 zyx348d :=
  zkn_mk E (fun g => List.forall_mem_cons.mpr ⟨zyx347 (o := zwith o g) E, fun _ h => absurd h List.not_mem_nil⟩) (show zget zprog2 292 = some m2X8_thing from rfl) rfl (by decide) (by decide) (by decide) (by decide) (G := []) (fun _ h => absurd h List.not_mem_nil) zyx348e
theorem zyx349c : zchkX [(94, 15)] zprog2 (zovW [zyx348d]) 100000 k2X8_product [] [zyx349q] [zyx349q] = true := zall_ok zyg23_ok (k := 25) (a := zbzyx349c) rfl
theorem zyx349k {l : Launch} {D : va_G} {tys : List (ClassId × FieldType)} {o : zO} {z : Nat} (E : zEnv tys) : zPtOk l D vwCl tys o z (zXX o z) zTs m2X8_product zyx349q := zkn_pt E (fun g => List.forall_mem_cons.mpr ⟨zyx348 (o := zwith o g) E, fun _ h => absurd h List.not_mem_nil⟩) (show zget zprog2 265 = some m2X8_product from rfl) (fun _ h => absurd h List.not_mem_nil) zyx349c _ List.mem_cons_self
theorem zyx349e : zrunw zprog2 (zovW [zyx348d]) 100000 (zcutW [(94, 15)] none ((zyx349r, zyh1483), 5, 660) [zyx349q]) 5 660 k2X8_product (zkin zyx349r zyh1483) 0 (zargs 0 zyx349a, [], (zyh1482.1, zyh1482.2.1, 0), 0, 0) = true := zall_ok zyg23_ok (k := 26) (a := zbzyx349e) rfl
theorem zyx349 {l : Launch} {D : va_G} {tys : List (ClassId × FieldType)} {o : zO} {z : Nat} (E : zEnv tys) : zKnW l D vwCl tys o z (zXX o z) zTs zprog2 zyx349d :=
  zkn_mk E (fun g => List.forall_mem_cons.mpr ⟨zyx348 (o := zwith o g) E, fun _ h => absurd h List.not_mem_nil⟩) (show zget zprog2 265 = some m2X8_product from rfl) rfl (by decide) (by decide) (by decide) (by decide) (G := [zyx349q]) (List.forall_mem_cons.mpr ⟨zyx349k E, fun _ h => absurd h List.not_mem_nil⟩) zyx349e
theorem zyx350c : zchkX [(94, 15)] zprog2 (zovW [zyx349d]) 100000 kX8_sum [] [zyx350q] [zyx350q] = true := zall_ok zyg23_ok (k := 27) (a := zbzyx350c) rfl
theorem zyx350k {l : Launch} {D : va_G} {tys : List (ClassId × FieldType)} {o : zO} {z : Nat} (E : zEnv tys) : zPtOk l D vwCl tys o z (zXX o z) zTs mX8_sum zyx350q := zkn_pt E (fun g => List.forall_mem_cons.mpr ⟨zyx349 (o := zwith o g) E, fun _ h => absurd h List.not_mem_nil⟩) (show zget zprog2 284 = some mX8_sum from rfl) (fun _ h => absurd h List.not_mem_nil) zyx350c _ List.mem_cons_self
theorem zyx350e : zrunw zprog2 (zovW [zyx349d]) 100000 (zcutW [(94, 15)] none ((zyx350r, zyh1483), 6, 780) [zyx350q]) 6 780 kX8_sum (zkin zyx350r zyh1483) 0 (zargs 0 zyx350a, [], (zyh1482.1, zyh1482.2.1, 0), 0, 0) = true := zall_ok zyg23_ok (k := 28) (a := zbzyx350e) rfl
theorem zyx350 {l : Launch} {D : va_G} {tys : List (ClassId × FieldType)} {o : zO} {z : Nat} (E : zEnv tys) : zKnW l D vwCl tys o z (zXX o z) zTs zprog2 zyx350d :=
  zkn_mk E (fun g => List.forall_mem_cons.mpr ⟨zyx349 (o := zwith o g) E, fun _ h => absurd h List.not_mem_nil⟩) (show zget zprog2 284 = some mX8_sum from rfl) rfl (by decide) (by decide) (by decide) (by decide) (G := [zyx350q]) (List.forall_mem_cons.mpr ⟨zyx350k E, fun _ h => absurd h List.not_mem_nil⟩) zyx350e
theorem zyx351e : zrunw zprog2 (zovW [zyx350d, zyx347d]) 100000 (zcutW [] none ((zyx351r, zyh1483), 7, 900) []) 7 900 kX8_heldBy (zkin zyx351r zyh1483) 0 (zargs 0 zyx351a, [], (zyh1482.1, zyh1482.2.1, 0), 0, 0) = true := zall_ok zyg23_ok (k := 29) (a := zbzyx351e) rfl
theorem zyx351 {l : Launch} {D : va_G} {tys : List (ClassId × FieldType)} {o : zO} {z : Nat} (E : zEnv tys) : zKnW l D vwCl tys o z (zXX o z) zTs zprog2 zyx351d :=
  zkn_mk E (fun g => List.forall_mem_cons.mpr ⟨zyx350 (o := zwith o g) E, List.forall_mem_cons.mpr ⟨zyx347 (o := zwith o g) E, fun _ h => absurd h List.not_mem_nil⟩⟩) (show zget zprog2 229 = some mX8_heldBy from rfl) rfl (by decide) (by decide) (by decide) (by decide) (G := []) (fun _ h => absurd h List.not_mem_nil) zyx351e
theorem zyx352e : zrunw zprog2 (zovW []) 100000 zcut0 4 480 kX8_oneOf (zkinL zyx352q) 0 (zargs 0 zyx352a, [], (zyh1479.1, zyh1479.2.1, 0), 0, 0) = true := zall_ok zyg23_ok (k := 30) (a := zbzyx352e) rfl
theorem zyx352 {l : Launch} {D : va_G} {tys : List (ClassId × FieldType)} {o : zO} {z : Nat} (E : zEnv tys) : zKnW l D vwCl tys o z (zXX o z) zTs zprog2 zyx352d :=
  zkn_ml E (fun g => fun _ h => absurd h List.not_mem_nil) (show zget zprog2 260 = some mX8_oneOf from rfl) rfl (by decide) (by decide) (by decide) (by decide) zyx352e
theorem zyx353c0 : zchkX [] zprog2 (zovW [zyx352d]) 100000 kX8_number [] [zyx353q0] [zyx353q0] = true := zall_ok zyg23_ok (k := 31) (a := zbzyx353c0) rfl
theorem zyx353_k0 {l : Launch} {D : va_G} {tys : List (ClassId × FieldType)} {o : zO} {z : Nat} (E : zEnv tys) : zPtOk l D vwCl tys o z (zXX o z) zTs mX8_number zyx353q0 := zkn_pt E (fun g => List.forall_mem_cons.mpr ⟨zyx352 (o := zwith o g) E, fun _ h => absurd h List.not_mem_nil⟩) (show zget zprog2 259 = some mX8_number from rfl) (fun _ h => absurd h List.not_mem_nil) zyx353c0 _ (List.mem_of_getElem? (i := 0) rfl)
theorem zyx353e : zrunw zprog2 (zovW [zyx352d]) 100000 (zcutW [] none ((zyx353r, zyh1480), 5, 600) [zyx353q0]) 5 600 kX8_number (zkin zyx353r zyh1480) 0 (zargs 0 zyx353a, [], (zyh1479.1, zyh1479.2.1, 0), 0, 0) = true := zall_ok zyg23_ok (k := 32) (a := zbzyx353e) rfl
theorem zyx353 {l : Launch} {D : va_G} {tys : List (ClassId × FieldType)} {o : zO} {z : Nat} (E : zEnv tys) : zKnW l D vwCl tys o z (zXX o z) zTs zprog2 zyx353d :=
  zkn_mk E (fun g => List.forall_mem_cons.mpr ⟨zyx352 (o := zwith o g) E, fun _ h => absurd h List.not_mem_nil⟩) (show zget zprog2 259 = some mX8_number from rfl) rfl (by decide) (by decide) (by decide) (by decide) (G := [zyx353q0]) (List.forall_mem_cons.mpr ⟨zyx353_k0 E, fun _ h => absurd h List.not_mem_nil⟩) zyx353e
theorem zyx354e : zrunw zprog2 (zovW [zyx351d, zyx348d, zyx347d, zyx353d, zyx346d]) 100000 (zcutW [] none ((zyx354r, zyh1480), 8, 1020) []) 8 1020 k2X8_thing (zkin zyx354r zyh1480) 0 (zargs 0 zyx354a, [], (zyh1479.1, zyh1479.2.1, 0), 0, 0) = true := zall_ok zyg23_ok (k := 33) (a := zbzyx354e) rfl
theorem zyx354 {l : Launch} {D : va_G} {tys : List (ClassId × FieldType)} {o : zO} {z : Nat} (E : zEnv tys) : zKnW l D vwCl tys o z (zXX o z) zTs zprog2 zyx354d :=
  zkn_mk E (fun g => List.forall_mem_cons.mpr ⟨zyx351 (o := zwith o g) E, List.forall_mem_cons.mpr ⟨zyx348 (o := zwith o g) E, List.forall_mem_cons.mpr ⟨zyx347 (o := zwith o g) E, List.forall_mem_cons.mpr ⟨zyx353 (o := zwith o g) E, List.forall_mem_cons.mpr ⟨zyx346 (o := zwith o g) E, fun _ h => absurd h List.not_mem_nil⟩⟩⟩⟩⟩) (show zget zprog2 292 = some m2X8_thing from rfl) rfl (by decide) (by decide) (by decide) (by decide) (G := []) (fun _ h => absurd h List.not_mem_nil) zyx354e
theorem zyx355c : zchkX [(94, 15)] zprog2 (zovW [zyx348d, zyx354d]) 100000 k2X8_product [zyx349q] [zyx355q] [zyx355q] = true := zall_ok zyg23_ok (k := 34) (a := zbzyx355c) rfl
theorem zyx355k {l : Launch} {D : va_G} {tys : List (ClassId × FieldType)} {o : zO} {z : Nat} (E : zEnv tys) : zPtOk l D vwCl tys o z (zXX o z) zTs m2X8_product zyx355q := zkn_pt E (fun g => List.forall_mem_cons.mpr ⟨zyx348 (o := zwith o g) E, List.forall_mem_cons.mpr ⟨zyx354 (o := zwith o g) E, fun _ h => absurd h List.not_mem_nil⟩⟩) (show zget zprog2 265 = some m2X8_product from rfl) (List.forall_mem_cons.mpr ⟨zyx349k E, fun _ h => absurd h List.not_mem_nil⟩) zyx355c _ List.mem_cons_self
theorem zyx355e : zrunw zprog2 (zovW [zyx348d, zyx354d]) 100000 (zcutW [(94, 15)] none ((zyx355r, zyh1480), 9, 1140) [zyx355q, zyx349q]) 9 1140 k2X8_product (zkin zyx355r zyh1480) 0 (zargs 0 zyx355a, [], (zyh1479.1, zyh1479.2.1, 0), 0, 0) = true := zall_ok zyg23_ok (k := 35) (a := zbzyx355e) rfl
theorem zyx355 {l : Launch} {D : va_G} {tys : List (ClassId × FieldType)} {o : zO} {z : Nat} (E : zEnv tys) : zKnW l D vwCl tys o z (zXX o z) zTs zprog2 zyx355d :=
  zkn_mk E (fun g => List.forall_mem_cons.mpr ⟨zyx348 (o := zwith o g) E, List.forall_mem_cons.mpr ⟨zyx354 (o := zwith o g) E, fun _ h => absurd h List.not_mem_nil⟩⟩) (show zget zprog2 265 = some m2X8_product from rfl) rfl (by decide) (by decide) (by decide) (by decide) (G := [zyx355q, zyx349q]) (List.forall_mem_cons.mpr ⟨zyx355k E, List.forall_mem_cons.mpr ⟨zyx349k E, fun _ h => absurd h List.not_mem_nil⟩⟩) zyx355e
theorem zyx356c : zchkX [(94, 15)] zprog2 (zovW [zyx349d, zyx355d]) 100000 kX8_sum [zyx350q] [zyx356q] [zyx356q] = true := zall_ok zyg23_ok (k := 36) (a := zbzyx356c) rfl
theorem zyx356k {l : Launch} {D : va_G} {tys : List (ClassId × FieldType)} {o : zO} {z : Nat} (E : zEnv tys) : zPtOk l D vwCl tys o z (zXX o z) zTs mX8_sum zyx356q := zkn_pt E (fun g => List.forall_mem_cons.mpr ⟨zyx349 (o := zwith o g) E, List.forall_mem_cons.mpr ⟨zyx355 (o := zwith o g) E, fun _ h => absurd h List.not_mem_nil⟩⟩) (show zget zprog2 284 = some mX8_sum from rfl) (List.forall_mem_cons.mpr ⟨zyx350k E, fun _ h => absurd h List.not_mem_nil⟩) zyx356c _ List.mem_cons_self
theorem zyx356e : zrunw zprog2 (zovW [zyx349d, zyx355d]) 100000 (zcutW [(94, 15)] none ((zyx356r, zyh1480), 10, 1260) [zyx356q, zyx350q]) 10 1260 kX8_sum (zkin zyx356r zyh1480) 0 (zargs 0 zyx356a, [], (zyh1479.1, zyh1479.2.1, 0), 0, 0) = true := zall_ok zyg23_ok (k := 37) (a := zbzyx356e) rfl
theorem zyx356 {l : Launch} {D : va_G} {tys : List (ClassId × FieldType)} {o : zO} {z : Nat} (E : zEnv tys) : zKnW l D vwCl tys o z (zXX o z) zTs zprog2 zyx356d :=
  zkn_mk E (fun g => List.forall_mem_cons.mpr ⟨zyx349 (o := zwith o g) E, List.forall_mem_cons.mpr ⟨zyx355 (o := zwith o g) E, fun _ h => absurd h List.not_mem_nil⟩⟩) (show zget zprog2 284 = some mX8_sum from rfl) rfl (by decide) (by decide) (by decide) (by decide) (G := [zyx356q, zyx350q]) (List.forall_mem_cons.mpr ⟨zyx356k E, List.forall_mem_cons.mpr ⟨zyx350k E, fun _ h => absurd h List.not_mem_nil⟩⟩) zyx356e
theorem zyx357e : zrunw zprog2 (zovW [zyx350d, zyx356d, zyx346d]) 100000 (zcutW [] none ((zyx357r, zyh1480), 11, 1380) []) 11 1380 kX8_heldBy (zkin zyx357r zyh1480) 0 (zargs 0 zyx357a, [], (zyh1479.1, zyh1479.2.1, 0), 0, 0) = true := zall_ok zyg23_ok (k := 38) (a := zbzyx357e) rfl
theorem zyx357 {l : Launch} {D : va_G} {tys : List (ClassId × FieldType)} {o : zO} {z : Nat} (E : zEnv tys) : zKnW l D vwCl tys o z (zXX o z) zTs zprog2 zyx357d :=
  zkn_mk E (fun g => List.forall_mem_cons.mpr ⟨zyx350 (o := zwith o g) E, List.forall_mem_cons.mpr ⟨zyx356 (o := zwith o g) E, List.forall_mem_cons.mpr ⟨zyx346 (o := zwith o g) E, fun _ h => absurd h List.not_mem_nil⟩⟩⟩) (show zget zprog2 229 = some mX8_heldBy from rfl) rfl (by decide) (by decide) (by decide) (by decide) (G := []) (fun _ h => absurd h List.not_mem_nil) zyx357e
theorem zyx358e : zrunw zprog2 (zovW []) 100000 zcut0 4 480 kX8_oneOf (zkinL zyx358q) 0 (zargs 0 zyx358a, [], (zyh1476.1, zyh1476.2.1, 0), 0, 0) = true := zall_ok zyg23_ok (k := 39) (a := zbzyx358e) rfl
theorem zyx358 {l : Launch} {D : va_G} {tys : List (ClassId × FieldType)} {o : zO} {z : Nat} (E : zEnv tys) : zKnW l D vwCl tys o z (zXX o z) zTs zprog2 zyx358d :=
  zkn_ml E (fun g => fun _ h => absurd h List.not_mem_nil) (show zget zprog2 260 = some mX8_oneOf from rfl) rfl (by decide) (by decide) (by decide) (by decide) zyx358e
theorem zyx359c0 : zchkX [] zprog2 (zovW [zyx358d]) 100000 kX8_number [] [zyx359q0] [zyx359q0] = true := zall_ok zyg23_ok (k := 40) (a := zbzyx359c0) rfl
theorem zyx359_k0 {l : Launch} {D : va_G} {tys : List (ClassId × FieldType)} {o : zO} {z : Nat} (E : zEnv tys) : zPtOk l D vwCl tys o z (zXX o z) zTs mX8_number zyx359q0 := zkn_pt E (fun g => List.forall_mem_cons.mpr ⟨zyx358 (o := zwith o g) E, fun _ h => absurd h List.not_mem_nil⟩) (show zget zprog2 259 = some mX8_number from rfl) (fun _ h => absurd h List.not_mem_nil) zyx359c0 _ (List.mem_of_getElem? (i := 0) rfl)
theorem zyx359e : zrunw zprog2 (zovW [zyx358d]) 100000 (zcutW [] none ((zyx359r, zyh1477), 5, 600) [zyx359q0]) 5 600 kX8_number (zkin zyx359r zyh1477) 0 (zargs 0 zyx359a, [], (zyh1476.1, zyh1476.2.1, 0), 0, 0) = true := zall_ok zyg23_ok (k := 41) (a := zbzyx359e) rfl
theorem zyx359 {l : Launch} {D : va_G} {tys : List (ClassId × FieldType)} {o : zO} {z : Nat} (E : zEnv tys) : zKnW l D vwCl tys o z (zXX o z) zTs zprog2 zyx359d :=
  zkn_mk E (fun g => List.forall_mem_cons.mpr ⟨zyx358 (o := zwith o g) E, fun _ h => absurd h List.not_mem_nil⟩) (show zget zprog2 259 = some mX8_number from rfl) rfl (by decide) (by decide) (by decide) (by decide) (G := [zyx359q0]) (List.forall_mem_cons.mpr ⟨zyx359_k0 E, fun _ h => absurd h List.not_mem_nil⟩) zyx359e
theorem zyx360e : zrunw zprog2 (zovW [zyx357d, zyx354d, zyx346d, zyx359d, zyx345d]) 100000 (zcutW [] none ((zyx360r, zyh1477), 12, 1500) []) 12 1500 k2X8_thing (zkin zyx360r zyh1477) 0 (zargs 0 zyx360a, [], (zyh1476.1, zyh1476.2.1, 0), 0, 0) = true := zall_ok zyg23_ok (k := 42) (a := zbzyx360e) rfl
theorem zyx360 {l : Launch} {D : va_G} {tys : List (ClassId × FieldType)} {o : zO} {z : Nat} (E : zEnv tys) : zKnW l D vwCl tys o z (zXX o z) zTs zprog2 zyx360d :=
  zkn_mk E (fun g => List.forall_mem_cons.mpr ⟨zyx357 (o := zwith o g) E, List.forall_mem_cons.mpr ⟨zyx354 (o := zwith o g) E, List.forall_mem_cons.mpr ⟨zyx346 (o := zwith o g) E, List.forall_mem_cons.mpr ⟨zyx359 (o := zwith o g) E, List.forall_mem_cons.mpr ⟨zyx345 (o := zwith o g) E, fun _ h => absurd h List.not_mem_nil⟩⟩⟩⟩⟩) (show zget zprog2 292 = some m2X8_thing from rfl) rfl (by decide) (by decide) (by decide) (by decide) (G := []) (fun _ h => absurd h List.not_mem_nil) zyx360e
theorem zyx361c : zchkX [(94, 15)] zprog2 (zovW [zyx354d, zyx360d]) 100000 k2X8_product [zyx355q, zyx349q] [zyx361q] [zyx361q] = true := zall_ok zyg23_ok (k := 43) (a := zbzyx361c) rfl
theorem zyx361k {l : Launch} {D : va_G} {tys : List (ClassId × FieldType)} {o : zO} {z : Nat} (E : zEnv tys) : zPtOk l D vwCl tys o z (zXX o z) zTs m2X8_product zyx361q := zkn_pt E (fun g => List.forall_mem_cons.mpr ⟨zyx354 (o := zwith o g) E, List.forall_mem_cons.mpr ⟨zyx360 (o := zwith o g) E, fun _ h => absurd h List.not_mem_nil⟩⟩) (show zget zprog2 265 = some m2X8_product from rfl) (List.forall_mem_cons.mpr ⟨zyx355k E, List.forall_mem_cons.mpr ⟨zyx349k E, fun _ h => absurd h List.not_mem_nil⟩⟩) zyx361c _ List.mem_cons_self
theorem zyx361e : zrunw zprog2 (zovW [zyx354d, zyx360d]) 100000 (zcutW [(94, 15)] none ((zyx361r, zyh1477), 13, 1620) [zyx361q, zyx355q, zyx349q]) 13 1620 k2X8_product (zkin zyx361r zyh1477) 0 (zargs 0 zyx361a, [], (zyh1476.1, zyh1476.2.1, 0), 0, 0) = true := zall_ok zyg23_ok (k := 44) (a := zbzyx361e) rfl
theorem zyx361 {l : Launch} {D : va_G} {tys : List (ClassId × FieldType)} {o : zO} {z : Nat} (E : zEnv tys) : zKnW l D vwCl tys o z (zXX o z) zTs zprog2 zyx361d :=
  zkn_mk E (fun g => List.forall_mem_cons.mpr ⟨zyx354 (o := zwith o g) E, List.forall_mem_cons.mpr ⟨zyx360 (o := zwith o g) E, fun _ h => absurd h List.not_mem_nil⟩⟩) (show zget zprog2 265 = some m2X8_product from rfl) rfl (by decide) (by decide) (by decide) (by decide) (G := [zyx361q, zyx355q, zyx349q]) (List.forall_mem_cons.mpr ⟨zyx361k E, List.forall_mem_cons.mpr ⟨zyx355k E, List.forall_mem_cons.mpr ⟨zyx349k E, fun _ h => absurd h List.not_mem_nil⟩⟩⟩) zyx361e
theorem zyx362c : zchkX [(94, 15)] zprog2 (zovW [zyx355d, zyx361d]) 100000 kX8_sum [zyx356q, zyx350q] [zyx362q] [zyx362q] = true := zall_ok zyg23_ok (k := 45) (a := zbzyx362c) rfl
theorem zyx362k {l : Launch} {D : va_G} {tys : List (ClassId × FieldType)} {o : zO} {z : Nat} (E : zEnv tys) : zPtOk l D vwCl tys o z (zXX o z) zTs mX8_sum zyx362q := zkn_pt E (fun g => List.forall_mem_cons.mpr ⟨zyx355 (o := zwith o g) E, List.forall_mem_cons.mpr ⟨zyx361 (o := zwith o g) E, fun _ h => absurd h List.not_mem_nil⟩⟩) (show zget zprog2 284 = some mX8_sum from rfl) (List.forall_mem_cons.mpr ⟨zyx356k E, List.forall_mem_cons.mpr ⟨zyx350k E, fun _ h => absurd h List.not_mem_nil⟩⟩) zyx362c _ List.mem_cons_self
theorem zyx362e : zrunw zprog2 (zovW [zyx355d, zyx361d]) 100000 (zcutW [(94, 15)] none ((zyx362r, zyh1477), 14, 1740) [zyx362q, zyx356q, zyx350q]) 14 1740 kX8_sum (zkin zyx362r zyh1477) 0 (zargs 0 zyx362a, [], (zyh1476.1, zyh1476.2.1, 0), 0, 0) = true := zall_ok zyg23_ok (k := 46) (a := zbzyx362e) rfl
theorem zyx362 {l : Launch} {D : va_G} {tys : List (ClassId × FieldType)} {o : zO} {z : Nat} (E : zEnv tys) : zKnW l D vwCl tys o z (zXX o z) zTs zprog2 zyx362d :=
  zkn_mk E (fun g => List.forall_mem_cons.mpr ⟨zyx355 (o := zwith o g) E, List.forall_mem_cons.mpr ⟨zyx361 (o := zwith o g) E, fun _ h => absurd h List.not_mem_nil⟩⟩) (show zget zprog2 284 = some mX8_sum from rfl) rfl (by decide) (by decide) (by decide) (by decide) (G := [zyx362q, zyx356q, zyx350q]) (List.forall_mem_cons.mpr ⟨zyx362k E, List.forall_mem_cons.mpr ⟨zyx356k E, List.forall_mem_cons.mpr ⟨zyx350k E, fun _ h => absurd h List.not_mem_nil⟩⟩⟩) zyx362e
theorem zyx363e : zrunw zprog2 (zovW [zyx356d, zyx362d, zyx345d]) 100000 (zcutW [] none ((zyx363r, zyh1477), 15, 1860) []) 15 1860 kX8_heldBy (zkin zyx363r zyh1477) 0 (zargs 0 zyx363a, [], (zyh1476.1, zyh1476.2.1, 0), 0, 0) = true := zall_ok zyg23_ok (k := 47) (a := zbzyx363e) rfl
theorem zyx363 {l : Launch} {D : va_G} {tys : List (ClassId × FieldType)} {o : zO} {z : Nat} (E : zEnv tys) : zKnW l D vwCl tys o z (zXX o z) zTs zprog2 zyx363d :=
  zkn_mk E (fun g => List.forall_mem_cons.mpr ⟨zyx356 (o := zwith o g) E, List.forall_mem_cons.mpr ⟨zyx362 (o := zwith o g) E, List.forall_mem_cons.mpr ⟨zyx345 (o := zwith o g) E, fun _ h => absurd h List.not_mem_nil⟩⟩⟩) (show zget zprog2 229 = some mX8_heldBy from rfl) rfl (by decide) (by decide) (by decide) (by decide) (G := []) (fun _ h => absurd h List.not_mem_nil) zyx363e
theorem zyx364e : zrunw zprog2 (zovW []) 100000 zcut0 4 480 kX8_oneOf (zkinL zyx364q) 0 (zargs 0 zyx364a, [], (zyh1473.1, zyh1473.2.1, 0), 0, 0) = true := zall_ok zyg23_ok (k := 48) (a := zbzyx364e) rfl
theorem zyx364 {l : Launch} {D : va_G} {tys : List (ClassId × FieldType)} {o : zO} {z : Nat} (E : zEnv tys) : zKnW l D vwCl tys o z (zXX o z) zTs zprog2 zyx364d :=
  zkn_ml E (fun g => fun _ h => absurd h List.not_mem_nil) (show zget zprog2 260 = some mX8_oneOf from rfl) rfl (by decide) (by decide) (by decide) (by decide) zyx364e
theorem zyx365c0 : zchkX [] zprog2 (zovW [zyx364d]) 100000 kX8_number [] [zyx365q0] [zyx365q0] = true := zall_ok zyg23_ok (k := 49) (a := zbzyx365c0) rfl
theorem zyx365_k0 {l : Launch} {D : va_G} {tys : List (ClassId × FieldType)} {o : zO} {z : Nat} (E : zEnv tys) : zPtOk l D vwCl tys o z (zXX o z) zTs mX8_number zyx365q0 := zkn_pt E (fun g => List.forall_mem_cons.mpr ⟨zyx364 (o := zwith o g) E, fun _ h => absurd h List.not_mem_nil⟩) (show zget zprog2 259 = some mX8_number from rfl) (fun _ h => absurd h List.not_mem_nil) zyx365c0 _ (List.mem_of_getElem? (i := 0) rfl)
theorem zyx365e : zrunw zprog2 (zovW [zyx364d]) 100000 (zcutW [] none ((zyx365r, zyh1474), 5, 600) [zyx365q0]) 5 600 kX8_number (zkin zyx365r zyh1474) 0 (zargs 0 zyx365a, [], (zyh1473.1, zyh1473.2.1, 0), 0, 0) = true := zall_ok zyg23_ok (k := 50) (a := zbzyx365e) rfl
theorem zyx365 {l : Launch} {D : va_G} {tys : List (ClassId × FieldType)} {o : zO} {z : Nat} (E : zEnv tys) : zKnW l D vwCl tys o z (zXX o z) zTs zprog2 zyx365d :=
  zkn_mk E (fun g => List.forall_mem_cons.mpr ⟨zyx364 (o := zwith o g) E, fun _ h => absurd h List.not_mem_nil⟩) (show zget zprog2 259 = some mX8_number from rfl) rfl (by decide) (by decide) (by decide) (by decide) (G := [zyx365q0]) (List.forall_mem_cons.mpr ⟨zyx365_k0 E, fun _ h => absurd h List.not_mem_nil⟩) zyx365e
theorem zyx366e : zrunw zprog2 (zovW [zyx363d, zyx360d, zyx345d, zyx365d, zyx344d]) 100000 (zcutW [] none ((zyx366r, zyh1474), 16, 1980) []) 16 1980 k2X8_thing (zkin zyx366r zyh1474) 0 (zargs 0 zyx366a, [], (zyh1473.1, zyh1473.2.1, 0), 0, 0) = true := zall_ok zyg23_ok (k := 51) (a := zbzyx366e) rfl
theorem zyx366 {l : Launch} {D : va_G} {tys : List (ClassId × FieldType)} {o : zO} {z : Nat} (E : zEnv tys) : zKnW l D vwCl tys o z (zXX o z) zTs zprog2 zyx366d :=
  zkn_mk E (fun g => List.forall_mem_cons.mpr ⟨zyx363 (o := zwith o g) E, List.forall_mem_cons.mpr ⟨zyx360 (o := zwith o g) E, List.forall_mem_cons.mpr ⟨zyx345 (o := zwith o g) E, List.forall_mem_cons.mpr ⟨zyx365 (o := zwith o g) E, List.forall_mem_cons.mpr ⟨zyx344 (o := zwith o g) E, fun _ h => absurd h List.not_mem_nil⟩⟩⟩⟩⟩) (show zget zprog2 292 = some m2X8_thing from rfl) rfl (by decide) (by decide) (by decide) (by decide) (G := []) (fun _ h => absurd h List.not_mem_nil) zyx366e
theorem zyx367c : zchkX [(94, 15)] zprog2 (zovW [zyx360d, zyx366d]) 100000 k2X8_product [zyx361q, zyx355q, zyx349q] [zyx367q] [zyx367q] = true := zall_ok zyg23_ok (k := 52) (a := zbzyx367c) rfl
theorem zyx367k {l : Launch} {D : va_G} {tys : List (ClassId × FieldType)} {o : zO} {z : Nat} (E : zEnv tys) : zPtOk l D vwCl tys o z (zXX o z) zTs m2X8_product zyx367q := zkn_pt E (fun g => List.forall_mem_cons.mpr ⟨zyx360 (o := zwith o g) E, List.forall_mem_cons.mpr ⟨zyx366 (o := zwith o g) E, fun _ h => absurd h List.not_mem_nil⟩⟩) (show zget zprog2 265 = some m2X8_product from rfl) (List.forall_mem_cons.mpr ⟨zyx361k E, List.forall_mem_cons.mpr ⟨zyx355k E, List.forall_mem_cons.mpr ⟨zyx349k E, fun _ h => absurd h List.not_mem_nil⟩⟩⟩) zyx367c _ List.mem_cons_self
theorem zyx367e : zrunw zprog2 (zovW [zyx360d, zyx366d]) 100000 (zcutW [(94, 15)] none ((zyx367r, zyh1474), 17, 2100) [zyx367q, zyx361q, zyx355q, zyx349q]) 17 2100 k2X8_product (zkin zyx367r zyh1474) 0 (zargs 0 zyx367a, [], (zyh1473.1, zyh1473.2.1, 0), 0, 0) = true := zall_ok zyg23_ok (k := 53) (a := zbzyx367e) rfl
theorem zyx367 {l : Launch} {D : va_G} {tys : List (ClassId × FieldType)} {o : zO} {z : Nat} (E : zEnv tys) : zKnW l D vwCl tys o z (zXX o z) zTs zprog2 zyx367d :=
  zkn_mk E (fun g => List.forall_mem_cons.mpr ⟨zyx360 (o := zwith o g) E, List.forall_mem_cons.mpr ⟨zyx366 (o := zwith o g) E, fun _ h => absurd h List.not_mem_nil⟩⟩) (show zget zprog2 265 = some m2X8_product from rfl) rfl (by decide) (by decide) (by decide) (by decide) (G := [zyx367q, zyx361q, zyx355q, zyx349q]) (List.forall_mem_cons.mpr ⟨zyx367k E, List.forall_mem_cons.mpr ⟨zyx361k E, List.forall_mem_cons.mpr ⟨zyx355k E, List.forall_mem_cons.mpr ⟨zyx349k E, fun _ h => absurd h List.not_mem_nil⟩⟩⟩⟩) zyx367e
theorem zyx368c : zchkX [(94, 15)] zprog2 (zovW [zyx361d, zyx367d]) 100000 kX8_sum [zyx362q, zyx356q, zyx350q] [zyx368q] [zyx368q] = true := zall_ok zyg23_ok (k := 54) (a := zbzyx368c) rfl
theorem zyx368k {l : Launch} {D : va_G} {tys : List (ClassId × FieldType)} {o : zO} {z : Nat} (E : zEnv tys) : zPtOk l D vwCl tys o z (zXX o z) zTs mX8_sum zyx368q := zkn_pt E (fun g => List.forall_mem_cons.mpr ⟨zyx361 (o := zwith o g) E, List.forall_mem_cons.mpr ⟨zyx367 (o := zwith o g) E, fun _ h => absurd h List.not_mem_nil⟩⟩) (show zget zprog2 284 = some mX8_sum from rfl) (List.forall_mem_cons.mpr ⟨zyx362k E, List.forall_mem_cons.mpr ⟨zyx356k E, List.forall_mem_cons.mpr ⟨zyx350k E, fun _ h => absurd h List.not_mem_nil⟩⟩⟩) zyx368c _ List.mem_cons_self
theorem zyx368e : zrunw zprog2 (zovW [zyx361d, zyx367d]) 100000 (zcutW [(94, 15)] none ((zyx368r, zyh1474), 18, 2220) [zyx368q, zyx362q, zyx356q, zyx350q]) 18 2220 kX8_sum (zkin zyx368r zyh1474) 0 (zargs 0 zyx368a, [], (zyh1473.1, zyh1473.2.1, 0), 0, 0) = true := zall_ok zyg23_ok (k := 55) (a := zbzyx368e) rfl
theorem zyx368 {l : Launch} {D : va_G} {tys : List (ClassId × FieldType)} {o : zO} {z : Nat} (E : zEnv tys) : zKnW l D vwCl tys o z (zXX o z) zTs zprog2 zyx368d :=
  zkn_mk E (fun g => List.forall_mem_cons.mpr ⟨zyx361 (o := zwith o g) E, List.forall_mem_cons.mpr ⟨zyx367 (o := zwith o g) E, fun _ h => absurd h List.not_mem_nil⟩⟩) (show zget zprog2 284 = some mX8_sum from rfl) rfl (by decide) (by decide) (by decide) (by decide) (G := [zyx368q, zyx362q, zyx356q, zyx350q]) (List.forall_mem_cons.mpr ⟨zyx368k E, List.forall_mem_cons.mpr ⟨zyx362k E, List.forall_mem_cons.mpr ⟨zyx356k E, List.forall_mem_cons.mpr ⟨zyx350k E, fun _ h => absurd h List.not_mem_nil⟩⟩⟩⟩) zyx368e
theorem zyx369e : zrunw zprog2 (zovW [zyx362d, zyx368d, zyx344d]) 100000 (zcutW [] none ((zyx369r, zyh1474), 19, 2340) []) 19 2340 kX8_heldBy (zkin zyx369r zyh1474) 0 (zargs 0 zyx369a, [], (zyh1473.1, zyh1473.2.1, 0), 0, 0) = true := zall_ok zyg23_ok (k := 56) (a := zbzyx369e) rfl
theorem zyx369 {l : Launch} {D : va_G} {tys : List (ClassId × FieldType)} {o : zO} {z : Nat} (E : zEnv tys) : zKnW l D vwCl tys o z (zXX o z) zTs zprog2 zyx369d :=
  zkn_mk E (fun g => List.forall_mem_cons.mpr ⟨zyx362 (o := zwith o g) E, List.forall_mem_cons.mpr ⟨zyx368 (o := zwith o g) E, List.forall_mem_cons.mpr ⟨zyx344 (o := zwith o g) E, fun _ h => absurd h List.not_mem_nil⟩⟩⟩) (show zget zprog2 229 = some mX8_heldBy from rfl) rfl (by decide) (by decide) (by decide) (by decide) (G := []) (fun _ h => absurd h List.not_mem_nil) zyx369e
theorem zyx370e : zrunw zprog2 (zovW []) 100000 zcut0 4 480 kX8_oneOf (zkinL zyx370q) 0 (zargs 0 zyx370a, [], (zyh1470.1, zyh1470.2.1, 0), 0, 0) = true := zall_ok zyg23_ok (k := 57) (a := zbzyx370e) rfl
theorem zyx370 {l : Launch} {D : va_G} {tys : List (ClassId × FieldType)} {o : zO} {z : Nat} (E : zEnv tys) : zKnW l D vwCl tys o z (zXX o z) zTs zprog2 zyx370d :=
  zkn_ml E (fun g => fun _ h => absurd h List.not_mem_nil) (show zget zprog2 260 = some mX8_oneOf from rfl) rfl (by decide) (by decide) (by decide) (by decide) zyx370e
theorem zyx371c0 : zchkX [] zprog2 (zovW [zyx370d]) 100000 kX8_number [] [zyx371q0] [zyx371q0] = true := zall_ok zyg23_ok (k := 58) (a := zbzyx371c0) rfl
theorem zyx371_k0 {l : Launch} {D : va_G} {tys : List (ClassId × FieldType)} {o : zO} {z : Nat} (E : zEnv tys) : zPtOk l D vwCl tys o z (zXX o z) zTs mX8_number zyx371q0 := zkn_pt E (fun g => List.forall_mem_cons.mpr ⟨zyx370 (o := zwith o g) E, fun _ h => absurd h List.not_mem_nil⟩) (show zget zprog2 259 = some mX8_number from rfl) (fun _ h => absurd h List.not_mem_nil) zyx371c0 _ (List.mem_of_getElem? (i := 0) rfl)
theorem zyx371e : zrunw zprog2 (zovW [zyx370d]) 100000 (zcutW [] none ((zyx371r, zyh1471), 5, 600) [zyx371q0]) 5 600 kX8_number (zkin zyx371r zyh1471) 0 (zargs 0 zyx371a, [], (zyh1470.1, zyh1470.2.1, 0), 0, 0) = true := zall_ok zyg23_ok (k := 59) (a := zbzyx371e) rfl
theorem zyx371 {l : Launch} {D : va_G} {tys : List (ClassId × FieldType)} {o : zO} {z : Nat} (E : zEnv tys) : zKnW l D vwCl tys o z (zXX o z) zTs zprog2 zyx371d :=
  zkn_mk E (fun g => List.forall_mem_cons.mpr ⟨zyx370 (o := zwith o g) E, fun _ h => absurd h List.not_mem_nil⟩) (show zget zprog2 259 = some mX8_number from rfl) rfl (by decide) (by decide) (by decide) (by decide) (G := [zyx371q0]) (List.forall_mem_cons.mpr ⟨zyx371_k0 E, fun _ h => absurd h List.not_mem_nil⟩) zyx371e
theorem zyx372e : zrunw zprog2 (zovW [zyx369d, zyx366d, zyx344d, zyx371d, zyx343d]) 100000 (zcutW [] none ((zyx372r, zyh1471), 20, 2460) []) 20 2460 k2X8_thing (zkin zyx372r zyh1471) 0 (zargs 0 zyx372a, [], (zyh1470.1, zyh1470.2.1, 0), 0, 0) = true := zall_ok zyg23_ok (k := 60) (a := zbzyx372e) rfl
theorem zyx372 {l : Launch} {D : va_G} {tys : List (ClassId × FieldType)} {o : zO} {z : Nat} (E : zEnv tys) : zKnW l D vwCl tys o z (zXX o z) zTs zprog2 zyx372d :=
  zkn_mk E (fun g => List.forall_mem_cons.mpr ⟨zyx369 (o := zwith o g) E, List.forall_mem_cons.mpr ⟨zyx366 (o := zwith o g) E, List.forall_mem_cons.mpr ⟨zyx344 (o := zwith o g) E, List.forall_mem_cons.mpr ⟨zyx371 (o := zwith o g) E, List.forall_mem_cons.mpr ⟨zyx343 (o := zwith o g) E, fun _ h => absurd h List.not_mem_nil⟩⟩⟩⟩⟩) (show zget zprog2 292 = some m2X8_thing from rfl) rfl (by decide) (by decide) (by decide) (by decide) (G := []) (fun _ h => absurd h List.not_mem_nil) zyx372e

