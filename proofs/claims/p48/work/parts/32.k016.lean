noncomputable def zyc410 : zC := .inr (8, [zyv114, zyv15, zyv15, zyv15, zyv114, zyv114, zyv114, zyv114, zyv15, zyv114, zyv15, zyv15, zyv126, zyv17, zyv314, zyv334, zyv124, zyv114, zyv114, zyv114, zyv15, zyv36, zyv129, zyv114, zyv15, zyv114, zyv114, zyv15, zyv15, zyv114, zyv114, zyv114, zyv114, zyv114, zyv114, zyv114, zyv114, zyv114, zyv114, zyv15, zyv114, zyv114, zyv114, zyv114, zyv15, zyv15, zyv15, zyv15, zyv114, zyv114, zyv114])
noncomputable def zyr344 : List zC := [zyc60, zyc60, zyc60, zyc69, zyc10, zyc10, zyc10, zyc12, zyc70, zyc8, zyc8, zyc70, zyc8, zyc8, zyc410, zyc52]
noncomputable def zyh391 : zH := (126, [zyr9, zyr10, zyr11, zyr12, zyr13, zyr344, zyr6, zyr7], 0)
noncomputable def zyh392 : zH := (126, [zyr9, zyr10, zyr11, zyr12, zyr13, zyr344, zyr6, zyr7], zym9)
noncomputable def zyc411 : zC := .inr (8, [zyv114, zyv15, zyv15, zyv15, zyv114, zyv114, zyv114, zyv114, zyv15, zyv114, zyv15, zyv15, zyv126, zyv17, zyv314, zyv335, zyv239, zyv114, zyv114, zyv114, zyv15, zyv36, zyv129, zyv114, zyv15, zyv114, zyv114, zyv15, zyv15, zyv114, zyv114, zyv114, zyv114, zyv114, zyv114, zyv114, zyv114, zyv114, zyv114, zyv15, zyv114, zyv114, zyv114, zyv114, zyv15, zyv15, zyv15, zyv15, zyv114, zyv114, zyv114])
noncomputable def zyr345 : List zC := [zyc60, zyc60, zyc60, zyc69, zyc10, zyc10, zyc10, zyc12, zyc70, zyc8, zyc8, zyc70, zyc8, zyc8, zyc411, zyc52]
noncomputable def zyh393 : zH := (126, [zyr9, zyr10, zyr11, zyr12, zyr13, zyr345, zyr6, zyr7], zym9)
noncomputable def zyc412 : zC := .inr (8, [zyv114, zyv15, zyv15, zyv15, zyv114, zyv114, zyv114, zyv114, zyv15, zyv114, zyv15, zyv15, zyv126, zyv17, zyv314, zyv335, zyv124, zyv114, zyv114, zyv114, zyv15, zyv36, zyv129, zyv114, zyv15, zyv114, zyv114, zyv15, zyv15, zyv114, zyv114, zyv114, zyv114, zyv114, zyv114, zyv114, zyv114, zyv114, zyv114, zyv15, zyv114, zyv114, zyv114, zyv114, zyv15, zyv15, zyv15, zyv15, zyv114, zyv114, zyv114])
noncomputable def zyr346 : List zC := [zyc60, zyc60, zyc60, zyc69, zyc10, zyc10, zyc10, zyc12, zyc70, zyc8, zyc8, zyc70, zyc8, zyc8, zyc412, zyc52]
noncomputable def zyh394 : zH := (126, [zyr9, zyr10, zyr11, zyr12, zyr13, zyr346, zyr6, zyr7], 0)
noncomputable def zyh395 : zH := (126, [zyr9, zyr10, zyr11, zyr12, zyr13, zyr346, zyr6, zyr7], zym9)
noncomputable def zyc413 : zC := .inr (8, [zyv114, zyv15, zyv15, zyv15, zyv114, zyv114, zyv114, zyv114, zyv15, zyv114, zyv15, zyv15, zyv126, zyv17, zyv314, zyv336, zyv239, zyv114, zyv114, zyv114, zyv15, zyv36, zyv129, zyv114, zyv15, zyv114, zyv114, zyv15, zyv15, zyv114, zyv114, zyv114, zyv114, zyv114, zyv114, zyv114, zyv114, zyv114, zyv114, zyv15, zyv114, zyv114, zyv114, zyv114, zyv15, zyv15, zyv15, zyv15, zyv114, zyv114, zyv114])
noncomputable def zyr347 : List zC := [zyc60, zyc60, zyc60, zyc69, zyc10, zyc10, zyc10, zyc12, zyc70, zyc8, zyc8, zyc70, zyc8, zyc8, zyc413, zyc52]
noncomputable def zyh396 : zH := (126, [zyr9, zyr10, zyr11, zyr12, zyr13, zyr347, zyr6, zyr7], zym9)
noncomputable def zyc414 : zC := .inr (8, [zyv114, zyv15, zyv15, zyv15, zyv114, zyv114, zyv114, zyv114, zyv15, zyv114, zyv15, zyv15, zyv126, zyv17, zyv314, zyv336, zyv124, zyv114, zyv114, zyv114, zyv15, zyv36, zyv129, zyv114, zyv15, zyv114, zyv114, zyv15, zyv15, zyv114, zyv114, zyv114, zyv114, zyv114, zyv114, zyv114, zyv114, zyv114, zyv114, zyv15, zyv114, zyv114, zyv114, zyv114, zyv15, zyv15, zyv15, zyv15, zyv114, zyv114, zyv114])
noncomputable def zyr348 : List zC := [zyc60, zyc60, zyc60, zyc69, zyc10, zyc10, zyc10, zyc12, zyc70, zyc8, zyc8, zyc70, zyc8, zyc8, zyc414, zyc52]
noncomputable def zyh397 : zH := (126, [zyr9, zyr10, zyr11, zyr12, zyr13, zyr348, zyr6, zyr7], 0)
noncomputable def zyh398 : zH := (126, [zyr9, zyr10, zyr11, zyr12, zyr13, zyr348, zyr6, zyr7], zym9)
noncomputable def zyc415 : zC := .inr (8, [zyv114, zyv15, zyv15, zyv15, zyv114, zyv114, zyv114, zyv114, zyv15, zyv114, zyv15, zyv15, zyv126, zyv17, zyv314, zyv337, zyv239, zyv114, zyv114, zyv114, zyv15, zyv36, zyv129, zyv114, zyv15, zyv114, zyv114, zyv15, zyv15, zyv114, zyv114, zyv114, zyv114, zyv114, zyv114, zyv114, zyv114, zyv114, zyv114, zyv15, zyv114, zyv114, zyv114, zyv114, zyv15, zyv15, zyv15, zyv15, zyv114, zyv114, zyv114])
noncomputable def zyr349 : List zC := [zyc60, zyc60, zyc60, zyc69, zyc10, zyc10, zyc10, zyc12, zyc70, zyc8, zyc8, zyc70, zyc8, zyc8, zyc415, zyc52]
noncomputable def zyh399 : zH := (126, [zyr9, zyr10, zyr11, zyr12, zyr13, zyr349, zyr6, zyr7], zym9)
noncomputable def zyc416 : zC := .inr (8, [zyv114, zyv15, zyv15, zyv15, zyv114, zyv114, zyv114, zyv114, zyv15, zyv114, zyv15, zyv15, zyv126, zyv17, zyv314, zyv337, zyv124, zyv114, zyv114, zyv114, zyv15, zyv36, zyv129, zyv114, zyv15, zyv114, zyv114, zyv15, zyv15, zyv114, zyv114, zyv114, zyv114, zyv114, zyv114, zyv114, zyv114, zyv114, zyv114, zyv15, zyv114, zyv114, zyv114, zyv114, zyv15, zyv15, zyv15, zyv15, zyv114, zyv114, zyv114])
noncomputable def zyr350 : List zC := [zyc60, zyc60, zyc60, zyc69, zyc10, zyc10, zyc10, zyc12, zyc70, zyc8, zyc8, zyc70, zyc8, zyc8, zyc416, zyc52]
noncomputable def zyh400 : zH := (126, [zyr9, zyr10, zyr11, zyr12, zyr13, zyr350, zyr6, zyr7], 0)
noncomputable def zyh401 : zH := (126, [zyr9, zyr10, zyr11, zyr12, zyr13, zyr350, zyr6, zyr7], zym9)
noncomputable def zyc417 : zC := .inr (8, [zyv114, zyv15, zyv15, zyv15, zyv114, zyv114, zyv114, zyv114, zyv15, zyv114, zyv15, zyv15, zyv126, zyv17, zyv314, zyv338, zyv239, zyv114, zyv114, zyv114, zyv15, zyv36, zyv129, zyv114, zyv15, zyv114, zyv114, zyv15, zyv15, zyv114, zyv114, zyv114, zyv114, zyv114, zyv114, zyv114, zyv114, zyv114, zyv114, zyv15, zyv114, zyv114, zyv114, zyv114, zyv15, zyv15, zyv15, zyv15, zyv114, zyv114, zyv114])
noncomputable def zyr351 : List zC := [zyc60, zyc60, zyc60, zyc69, zyc10, zyc10, zyc10, zyc12, zyc70, zyc8, zyc8, zyc70, zyc8, zyc8, zyc417, zyc52]
noncomputable def zyh402 : zH := (126, [zyr9, zyr10, zyr11, zyr12, zyr13, zyr351, zyr6, zyr7], zym9)
noncomputable def zyc418 : zC := .inr (8, [zyv114, zyv15, zyv15, zyv15, zyv114, zyv114, zyv114, zyv114, zyv15, zyv114, zyv15, zyv15, zyv126, zyv17, zyv314, zyv338, zyv124, zyv114, zyv114, zyv114, zyv15, zyv36, zyv129, zyv114, zyv15, zyv114, zyv114, zyv15, zyv15, zyv114, zyv114, zyv114, zyv114, zyv114, zyv114, zyv114, zyv114, zyv114, zyv114, zyv15, zyv114, zyv114, zyv114, zyv114, zyv15, zyv15, zyv15, zyv15, zyv114, zyv114, zyv114])
noncomputable def zyr352 : List zC := [zyc60, zyc60, zyc60, zyc69, zyc10, zyc10, zyc10, zyc12, zyc70, zyc8, zyc8, zyc70, zyc8, zyc8, zyc418, zyc52]
noncomputable def zyh403 : zH := (126, [zyr9, zyr10, zyr11, zyr12, zyr13, zyr352, zyr6, zyr7], 0)
noncomputable def zyh404 : zH := (126, [zyr9, zyr10, zyr11, zyr12, zyr13, zyr352, zyr6, zyr7], zym9)
noncomputable def zyc419 : zC := .inr (8, [zyv114, zyv15, zyv15, zyv15, zyv114, zyv114, zyv114, zyv114, zyv15, zyv114, zyv15, zyv15, zyv126, zyv17, zyv314, zyv339, zyv239, zyv114, zyv114, zyv114, zyv15, zyv36, zyv129, zyv114, zyv15, zyv114, zyv114, zyv15, zyv15, zyv114, zyv114, zyv114, zyv114, zyv114, zyv114, zyv114, zyv114, zyv114, zyv114, zyv15, zyv114, zyv114, zyv114, zyv114, zyv15, zyv15, zyv15, zyv15, zyv114, zyv114, zyv114])
noncomputable def zyr353 : List zC := [zyc60, zyc60, zyc60, zyc69, zyc10, zyc10, zyc10, zyc12, zyc70, zyc8, zyc8, zyc70, zyc8, zyc8, zyc419, zyc52]
noncomputable def zyh405 : zH := (126, [zyr9, zyr10, zyr11, zyr12, zyr13, zyr353, zyr6, zyr7], zym9)
noncomputable def zyc420 : zC := .inr (8, [zyv114, zyv15, zyv15, zyv15, zyv114, zyv114, zyv114, zyv114, zyv15, zyv114, zyv15, zyv15, zyv126, zyv17, zyv314, zyv339, zyv124, zyv114, zyv114, zyv114, zyv15, zyv36, zyv129, zyv114, zyv15, zyv114, zyv114, zyv15, zyv15, zyv114, zyv114, zyv114, zyv114, zyv114, zyv114, zyv114, zyv114, zyv114, zyv114, zyv15, zyv114, zyv114, zyv114, zyv114, zyv15, zyv15, zyv15, zyv15, zyv114, zyv114, zyv114])
noncomputable def zyr354 : List zC := [zyc60, zyc60, zyc60, zyc69, zyc10, zyc10, zyc10, zyc12, zyc70, zyc8, zyc8, zyc70, zyc8, zyc8, zyc420, zyc52]
noncomputable def zyh406 : zH := (126, [zyr9, zyr10, zyr11, zyr12, zyr13, zyr354, zyr6, zyr7], 0)
noncomputable def zyh407 : zH := (126, [zyr9, zyr10, zyr11, zyr12, zyr13, zyr354, zyr6, zyr7], zym9)
noncomputable def zyc421 : zC := .inr (8, [zyv114, zyv15, zyv15, zyv15, zyv114, zyv114, zyv114, zyv114, zyv15, zyv114, zyv15, zyv15, zyv126, zyv17, zyv314, zyv340, zyv239, zyv114, zyv114, zyv114, zyv15, zyv36, zyv129, zyv114, zyv15, zyv114, zyv114, zyv15, zyv15, zyv114, zyv114, zyv114, zyv114, zyv114, zyv114, zyv114, zyv114, zyv114, zyv114, zyv15, zyv114, zyv114, zyv114, zyv114, zyv15, zyv15, zyv15, zyv15, zyv114, zyv114, zyv114])
noncomputable def zyr355 : List zC := [zyc60, zyc60, zyc60, zyc69, zyc10, zyc10, zyc10, zyc12, zyc70, zyc8, zyc8, zyc70, zyc8, zyc8, zyc421, zyc52]
noncomputable def zyh408 : zH := (126, [zyr9, zyr10, zyr11, zyr12, zyr13, zyr355, zyr6, zyr7], zym9)
noncomputable def zyc422 : zC := .inr (8, [zyv114, zyv15, zyv15, zyv15, zyv114, zyv114, zyv114, zyv114, zyv15, zyv114, zyv15, zyv15, zyv126, zyv17, zyv314, zyv340, zyv124, zyv114, zyv114, zyv114, zyv15, zyv36, zyv129, zyv114, zyv15, zyv114, zyv114, zyv15, zyv15, zyv114, zyv114, zyv114, zyv114, zyv114, zyv114, zyv114, zyv114, zyv114, zyv114, zyv15, zyv114, zyv114, zyv114, zyv114, zyv15, zyv15, zyv15, zyv15, zyv114, zyv114, zyv114])
noncomputable def zyr356 : List zC := [zyc60, zyc60, zyc60, zyc69, zyc10, zyc10, zyc10, zyc12, zyc70, zyc8, zyc8, zyc70, zyc8, zyc8, zyc422, zyc52]
noncomputable def zyh409 : zH := (126, [zyr9, zyr10, zyr11, zyr12, zyr13, zyr356, zyr6, zyr7], 0)
noncomputable def zyh410 : zH := (126, [zyr9, zyr10, zyr11, zyr12, zyr13, zyr356, zyr6, zyr7], zym9)
noncomputable def zyc423 : zC := .inr (8, [zyv114, zyv15, zyv15, zyv15, zyv114, zyv114, zyv114, zyv114, zyv15, zyv114, zyv15, zyv15, zyv126, zyv17, zyv314, zyv341, zyv239, zyv114, zyv114, zyv114, zyv15, zyv36, zyv129, zyv114, zyv15, zyv114, zyv114, zyv15, zyv15, zyv114, zyv114, zyv114, zyv114, zyv114, zyv114, zyv114, zyv114, zyv114, zyv114, zyv15, zyv114, zyv114, zyv114, zyv114, zyv15, zyv15, zyv15, zyv15, zyv114, zyv114, zyv114])
noncomputable def zyr357 : List zC := [zyc60, zyc60, zyc60, zyc69, zyc10, zyc10, zyc10, zyc12, zyc70, zyc8, zyc8, zyc70, zyc8, zyc8, zyc423, zyc52]
noncomputable def zyh411 : zH := (126, [zyr9, zyr10, zyr11, zyr12, zyr13, zyr357, zyr6, zyr7], zym9)
noncomputable def zyc424 : zC := .inr (8, [zyv114, zyv15, zyv15, zyv15, zyv114, zyv114, zyv114, zyv114, zyv15, zyv114, zyv15, zyv15, zyv126, zyv17, zyv314, zyv341, zyv124, zyv114, zyv114, zyv114, zyv15, zyv36, zyv129, zyv114, zyv15, zyv114, zyv114, zyv15, zyv15, zyv114, zyv114, zyv114, zyv114, zyv114, zyv114, zyv114, zyv114, zyv114, zyv114, zyv15, zyv114, zyv114, zyv114, zyv114, zyv15, zyv15, zyv15, zyv15, zyv114, zyv114, zyv114])
noncomputable def zyr358 : List zC := [zyc60, zyc60, zyc60, zyc69, zyc10, zyc10, zyc10, zyc12, zyc70, zyc8, zyc8, zyc70, zyc8, zyc8, zyc424, zyc52]
noncomputable def zyh412 : zH := (126, [zyr9, zyr10, zyr11, zyr12, zyr13, zyr358, zyr6, zyr7], 0)
noncomputable def zyh413 : zH := (126, [zyr9, zyr10, zyr11, zyr12, zyr13, zyr358, zyr6, zyr7], zym9)
noncomputable def zyc425 : zC := .inr (8, [zyv114, zyv15, zyv15, zyv15, zyv114, zyv114, zyv114, zyv114, zyv15, zyv114, zyv15, zyv15, zyv126, zyv17, zyv314, zyv342, zyv239, zyv114, zyv114, zyv114, zyv15, zyv36, zyv129, zyv114, zyv15, zyv114, zyv114, zyv15, zyv15, zyv114, zyv114, zyv114, zyv114, zyv114, zyv114, zyv114, zyv114, zyv114, zyv114, zyv15, zyv114, zyv114, zyv114, zyv114, zyv15, zyv15, zyv15, zyv15, zyv114, zyv114, zyv114])
noncomputable def zyr359 : List zC := [zyc60, zyc60, zyc60, zyc69, zyc10, zyc10, zyc10, zyc12, zyc70, zyc8, zyc8, zyc70, zyc8, zyc8, zyc425, zyc52]
noncomputable def zyh414 : zH := (126, [zyr9, zyr10, zyr11, zyr12, zyr13, zyr359, zyr6, zyr7], zym9)
noncomputable def zyc426 : zC := .inr (8, [zyv114, zyv15, zyv15, zyv15, zyv114, zyv114, zyv114, zyv114, zyv15, zyv114, zyv15, zyv15, zyv126, zyv17, zyv314, zyv342, zyv124, zyv114, zyv114, zyv114, zyv15, zyv36, zyv129, zyv114, zyv15, zyv114, zyv114, zyv15, zyv15, zyv114, zyv114, zyv114, zyv114, zyv114, zyv114, zyv114, zyv114, zyv114, zyv114, zyv15, zyv114, zyv114, zyv114, zyv114, zyv15, zyv15, zyv15, zyv15, zyv114, zyv114, zyv114])
noncomputable def zyr360 : List zC := [zyc60, zyc60, zyc60, zyc69, zyc10, zyc10, zyc10, zyc12, zyc70, zyc8, zyc8, zyc70, zyc8, zyc8, zyc426, zyc52]
noncomputable def zyh415 : zH := (126, [zyr9, zyr10, zyr11, zyr12, zyr13, zyr360, zyr6, zyr7], 0)
noncomputable def zyh416 : zH := (126, [zyr9, zyr10, zyr11, zyr12, zyr13, zyr360, zyr6, zyr7], zym9)
noncomputable def zyc427 : zC := .inr (8, [zyv114, zyv15, zyv15, zyv15, zyv114, zyv114, zyv114, zyv114, zyv15, zyv114, zyv15, zyv15, zyv126, zyv17, zyv314, zyv343, zyv239, zyv114, zyv114, zyv114, zyv15, zyv36, zyv129, zyv114, zyv15, zyv114, zyv114, zyv15, zyv15, zyv114, zyv114, zyv114, zyv114, zyv114, zyv114, zyv114, zyv114, zyv114, zyv114, zyv15, zyv114, zyv114, zyv114, zyv114, zyv15, zyv15, zyv15, zyv15, zyv114, zyv114, zyv114])
noncomputable def zyr361 : List zC := [zyc60, zyc60, zyc60, zyc69, zyc10, zyc10, zyc10, zyc12, zyc70, zyc8, zyc8, zyc70, zyc8, zyc8, zyc427, zyc52]
noncomputable def zyh417 : zH := (126, [zyr9, zyr10, zyr11, zyr12, zyr13, zyr361, zyr6, zyr7], zym9)
noncomputable def zyc428 : zC := .inr (8, [zyv114, zyv15, zyv15, zyv15, zyv114, zyv114, zyv114, zyv114, zyv15, zyv114, zyv15, zyv15, zyv126, zyv17, zyv314, zyv343, zyv124, zyv114, zyv114, zyv114, zyv15, zyv36, zyv129, zyv114, zyv15, zyv114, zyv114, zyv15, zyv15, zyv114, zyv114, zyv114, zyv114, zyv114, zyv114, zyv114, zyv114, zyv114, zyv114, zyv15, zyv114, zyv114, zyv114, zyv114, zyv15, zyv15, zyv15, zyv15, zyv114, zyv114, zyv114])
noncomputable def zyr362 : List zC := [zyc60, zyc60, zyc60, zyc69, zyc10, zyc10, zyc10, zyc12, zyc70, zyc8, zyc8, zyc70, zyc8, zyc8, zyc428, zyc52]
noncomputable def zyh418 : zH := (126, [zyr9, zyr10, zyr11, zyr12, zyr13, zyr362, zyr6, zyr7], 0)
noncomputable def zyh419 : zH := (126, [zyr9, zyr10, zyr11, zyr12, zyr13, zyr362, zyr6, zyr7], zym9)
noncomputable def zyc429 : zC := .inr (8, [zyv114, zyv15, zyv15, zyv15, zyv114, zyv114, zyv114, zyv114, zyv15, zyv114, zyv15, zyv15, zyv126, zyv17, zyv314, zyv344, zyv239, zyv114, zyv114, zyv114, zyv15, zyv36, zyv129, zyv114, zyv15, zyv114, zyv114, zyv15, zyv15, zyv114, zyv114, zyv114, zyv114, zyv114, zyv114, zyv114, zyv114, zyv114, zyv114, zyv15, zyv114, zyv114, zyv114, zyv114, zyv15, zyv15, zyv15, zyv15, zyv114, zyv114, zyv114])
noncomputable def zyr363 : List zC := [zyc60, zyc60, zyc60, zyc69, zyc10, zyc10, zyc10, zyc12, zyc70, zyc8, zyc8, zyc70, zyc8, zyc8, zyc429, zyc52]
noncomputable def zyh420 : zH := (126, [zyr9, zyr10, zyr11, zyr12, zyr13, zyr363, zyr6, zyr7], zym9)
noncomputable def zyc430 : zC := .inr (8, [zyv114, zyv15, zyv15, zyv15, zyv114, zyv114, zyv114, zyv114, zyv15, zyv114, zyv15, zyv15, zyv126, zyv17, zyv314, zyv344, zyv124, zyv114, zyv114, zyv114, zyv15, zyv36, zyv129, zyv114, zyv15, zyv114, zyv114, zyv15, zyv15, zyv114, zyv114, zyv114, zyv114, zyv114, zyv114, zyv114, zyv114, zyv114, zyv114, zyv15, zyv114, zyv114, zyv114, zyv114, zyv15, zyv15, zyv15, zyv15, zyv114, zyv114, zyv114])
noncomputable def zyr364 : List zC := [zyc60, zyc60, zyc60, zyc69, zyc10, zyc10, zyc10, zyc12, zyc70, zyc8, zyc8, zyc70, zyc8, zyc8, zyc430, zyc52]
noncomputable def zyh421 : zH := (126, [zyr9, zyr10, zyr11, zyr12, zyr13, zyr364, zyr6, zyr7], 0)
noncomputable def zyh422 : zH := (126, [zyr9, zyr10, zyr11, zyr12, zyr13, zyr364, zyr6, zyr7], zym9)
noncomputable def zyc431 : zC := .inr (8, [zyv114, zyv15, zyv15, zyv15, zyv114, zyv114, zyv114, zyv114, zyv15, zyv114, zyv15, zyv15, zyv126, zyv17, zyv314, zyv345, zyv239, zyv114, zyv114, zyv114, zyv15, zyv36, zyv129, zyv114, zyv15, zyv114, zyv114, zyv15, zyv15, zyv114, zyv114, zyv114, zyv114, zyv114, zyv114, zyv114, zyv114, zyv114, zyv114, zyv15, zyv114, zyv114, zyv114, zyv114, zyv15, zyv15, zyv15, zyv15, zyv114, zyv114, zyv114])
noncomputable def zyr365 : List zC := [zyc60, zyc60, zyc60, zyc69, zyc10, zyc10, zyc10, zyc12, zyc70, zyc8, zyc8, zyc70, zyc8, zyc8, zyc431, zyc52]
noncomputable def zyh423 : zH := (126, [zyr9, zyr10, zyr11, zyr12, zyr13, zyr365, zyr6, zyr7], zym9)
noncomputable def zyc432 : zC := .inr (8, [zyv114, zyv15, zyv15, zyv15, zyv114, zyv114, zyv114, zyv114, zyv15, zyv114, zyv15, zyv15, zyv126, zyv17, zyv314, zyv345, zyv124, zyv114, zyv114, zyv114, zyv15, zyv36, zyv129, zyv114, zyv15, zyv114, zyv114, zyv15, zyv15, zyv114, zyv114, zyv114, zyv114, zyv114, zyv114, zyv114, zyv114, zyv114, zyv114, zyv15, zyv114, zyv114, zyv114, zyv114, zyv15, zyv15, zyv15, zyv15, zyv114, zyv114, zyv114])
noncomputable def zyr366 : List zC := [zyc60, zyc60, zyc60, zyc69, zyc10, zyc10, zyc10, zyc12, zyc70, zyc8, zyc8, zyc70, zyc8, zyc8, zyc432, zyc52]
noncomputable def zyh424 : zH := (126, [zyr9, zyr10, zyr11, zyr12, zyr13, zyr366, zyr6, zyr7], 0)
noncomputable def zyh425 : zH := (126, [zyr9, zyr10, zyr11, zyr12, zyr13, zyr366, zyr6, zyr7], zym9)
noncomputable def zyc433 : zC := .inr (8, [zyv114, zyv15, zyv15, zyv15, zyv114, zyv114, zyv114, zyv114, zyv15, zyv114, zyv15, zyv15, zyv126, zyv17, zyv314, zyv346, zyv239, zyv114, zyv114, zyv114, zyv15, zyv36, zyv129, zyv114, zyv15, zyv114, zyv114, zyv15, zyv15, zyv114, zyv114, zyv114, zyv114, zyv114, zyv114, zyv114, zyv114, zyv114, zyv114, zyv15, zyv114, zyv114, zyv114, zyv114, zyv15, zyv15, zyv15, zyv15, zyv114, zyv114, zyv114])
noncomputable def zyr367 : List zC := [zyc60, zyc60, zyc60, zyc69, zyc10, zyc10, zyc10, zyc12, zyc70, zyc8, zyc8, zyc70, zyc8, zyc8, zyc433, zyc52]
noncomputable def zyh426 : zH := (126, [zyr9, zyr10, zyr11, zyr12, zyr13, zyr367, zyr6, zyr7], zym9)
noncomputable def zyc434 : zC := .inr (8, [zyv114, zyv15, zyv15, zyv15, zyv114, zyv114, zyv114, zyv114, zyv15, zyv114, zyv15, zyv15, zyv126, zyv17, zyv314, zyv346, zyv124, zyv114, zyv114, zyv114, zyv15, zyv36, zyv129, zyv114, zyv15, zyv114, zyv114, zyv15, zyv15, zyv114, zyv114, zyv114, zyv114, zyv114, zyv114, zyv114, zyv114, zyv114, zyv114, zyv15, zyv114, zyv114, zyv114, zyv114, zyv15, zyv15, zyv15, zyv15, zyv114, zyv114, zyv114])
noncomputable def zyr368 : List zC := [zyc60, zyc60, zyc60, zyc69, zyc10, zyc10, zyc10, zyc12, zyc70, zyc8, zyc8, zyc70, zyc8, zyc8, zyc434, zyc52]
noncomputable def zyh427 : zH := (126, [zyr9, zyr10, zyr11, zyr12, zyr13, zyr368, zyr6, zyr7], 0)
noncomputable def zyh428 : zH := (126, [zyr9, zyr10, zyr11, zyr12, zyr13, zyr368, zyr6, zyr7], zym9)
noncomputable def zyc435 : zC := .inr (8, [zyv114, zyv15, zyv15, zyv15, zyv114, zyv114, zyv114, zyv114, zyv15, zyv114, zyv15, zyv15, zyv126, zyv17, zyv314, zyv347, zyv239, zyv114, zyv114, zyv114, zyv15, zyv36, zyv129, zyv114, zyv15, zyv114, zyv114, zyv15, zyv15, zyv114, zyv114, zyv114, zyv114, zyv114, zyv114, zyv114, zyv114, zyv114, zyv114, zyv15, zyv114, zyv114, zyv114, zyv114, zyv15, zyv15, zyv15, zyv15, zyv114, zyv114, zyv114])
noncomputable def zyr369 : List zC := [zyc60, zyc60, zyc60, zyc69, zyc10, zyc10, zyc10, zyc12, zyc70, zyc8, zyc8, zyc70, zyc8, zyc8, zyc435, zyc52]
noncomputable def zyh429 : zH := (126, [zyr9, zyr10, zyr11, zyr12, zyr13, zyr369, zyr6, zyr7], zym9)
noncomputable def zyc436 : zC := .inr (8, [zyv114, zyv15, zyv15, zyv15, zyv114, zyv114, zyv114, zyv114, zyv15, zyv114, zyv15, zyv15, zyv126, zyv17, zyv314, zyv347, zyv124, zyv114, zyv114, zyv114, zyv15, zyv36, zyv129, zyv114, zyv15, zyv114, zyv114, zyv15, zyv15, zyv114, zyv114, zyv114, zyv114, zyv114, zyv114, zyv114, zyv114, zyv114, zyv114, zyv15, zyv114, zyv114, zyv114, zyv114, zyv15, zyv15, zyv15, zyv15, zyv114, zyv114, zyv114])
noncomputable def zyr370 : List zC := [zyc60, zyc60, zyc60, zyc69, zyc10, zyc10, zyc10, zyc12, zyc70, zyc8, zyc8, zyc70, zyc8, zyc8, zyc436, zyc52]
noncomputable def zyh430 : zH := (126, [zyr9, zyr10, zyr11, zyr12, zyr13, zyr370, zyr6, zyr7], 0)
noncomputable def zyh431 : zH := (126, [zyr9, zyr10, zyr11, zyr12, zyr13, zyr370, zyr6, zyr7], zym9)
noncomputable def zyc437 : zC := .inr (8, [zyv114, zyv15, zyv15, zyv15, zyv114, zyv114, zyv114, zyv114, zyv15, zyv114, zyv15, zyv15, zyv126, zyv17, zyv314, zyv348, zyv239, zyv114, zyv114, zyv114, zyv15, zyv36, zyv129, zyv114, zyv15, zyv114, zyv114, zyv15, zyv15, zyv114, zyv114, zyv114, zyv114, zyv114, zyv114, zyv114, zyv114, zyv114, zyv114, zyv15, zyv114, zyv114, zyv114, zyv114, zyv15, zyv15, zyv15, zyv15, zyv114, zyv114, zyv114])
noncomputable def zyr371 : List zC := [zyc60, zyc60, zyc60, zyc69, zyc10, zyc10, zyc10, zyc12, zyc70, zyc8, zyc8, zyc70, zyc8, zyc8, zyc437, zyc52]
noncomputable def zyh432 : zH := (126, [zyr9, zyr10, zyr11, zyr12, zyr13, zyr371, zyr6, zyr7], zym9)
noncomputable def zyc438 : zC := .inr (8, [zyv114, zyv15, zyv15, zyv15, zyv114, zyv114, zyv114, zyv114, zyv15, zyv114, zyv15, zyv15, zyv126, zyv17, zyv314, zyv348, zyv124, zyv114, zyv114, zyv114, zyv15, zyv36, zyv129, zyv114, zyv15, zyv114, zyv114, zyv15, zyv15, zyv114, zyv114, zyv114, zyv114, zyv114, zyv114, zyv114, zyv114, zyv114, zyv114, zyv15, zyv114, zyv114, zyv114, zyv114, zyv15, zyv15, zyv15, zyv15, zyv114, zyv114, zyv114])
noncomputable def zyr372 : List zC := [zyc60, zyc60, zyc60, zyc69, zyc10, zyc10, zyc10, zyc12, zyc70, zyc8, zyc8, zyc70, zyc8, zyc8, zyc438, zyc52]
noncomputable def zyh433 : zH := (126, [zyr9, zyr10, zyr11, zyr12, zyr13, zyr372, zyr6, zyr7], 0)
noncomputable def zyh434 : zH := (126, [zyr9, zyr10, zyr11, zyr12, zyr13, zyr372, zyr6, zyr7], zym9)
noncomputable def zyc439 : zC := .inr (8, [zyv114, zyv15, zyv15, zyv15, zyv114, zyv114, zyv114, zyv114, zyv15, zyv114, zyv15, zyv15, zyv126, zyv17, zyv314, zyv349, zyv239, zyv114, zyv114, zyv114, zyv15, zyv36, zyv129, zyv114, zyv15, zyv114, zyv114, zyv15, zyv15, zyv114, zyv114, zyv114, zyv114, zyv114, zyv114, zyv114, zyv114, zyv114, zyv114, zyv15, zyv114, zyv114, zyv114, zyv114, zyv15, zyv15, zyv15, zyv15, zyv114, zyv114, zyv114])
noncomputable def zyr373 : List zC := [zyc60, zyc60, zyc60, zyc69, zyc10, zyc10, zyc10, zyc12, zyc70, zyc8, zyc8, zyc70, zyc8, zyc8, zyc439, zyc52]
noncomputable def zyh435 : zH := (126, [zyr9, zyr10, zyr11, zyr12, zyr13, zyr373, zyr6, zyr7], zym9)
noncomputable def zyc440 : zC := .inr (8, [zyv114, zyv15, zyv15, zyv15, zyv114, zyv114, zyv114, zyv114, zyv15, zyv114, zyv15, zyv15, zyv126, zyv17, zyv314, zyv349, zyv124, zyv114, zyv114, zyv114, zyv15, zyv36, zyv129, zyv114, zyv15, zyv114, zyv114, zyv15, zyv15, zyv114, zyv114, zyv114, zyv114, zyv114, zyv114, zyv114, zyv114, zyv114, zyv114, zyv15, zyv114, zyv114, zyv114, zyv114, zyv15, zyv15, zyv15, zyv15, zyv114, zyv114, zyv114])
noncomputable def zyr374 : List zC := [zyc60, zyc60, zyc60, zyc69, zyc10, zyc10, zyc10, zyc12, zyc70, zyc8, zyc8, zyc70, zyc8, zyc8, zyc440, zyc52]
noncomputable def zyh436 : zH := (126, [zyr9, zyr10, zyr11, zyr12, zyr13, zyr374, zyr6, zyr7], 0)
noncomputable def zyh437 : zH := (126, [zyr9, zyr10, zyr11, zyr12, zyr13, zyr374, zyr6, zyr7], zym9)
noncomputable def zyc441 : zC := .inr (8, [zyv114, zyv15, zyv15, zyv15, zyv114, zyv114, zyv114, zyv114, zyv15, zyv114, zyv15, zyv15, zyv126, zyv17, zyv314, zyv350, zyv239, zyv114, zyv114, zyv114, zyv15, zyv36, zyv129, zyv114, zyv15, zyv114, zyv114, zyv15, zyv15, zyv114, zyv114, zyv114, zyv114, zyv114, zyv114, zyv114, zyv114, zyv114, zyv114, zyv15, zyv114, zyv114, zyv114, zyv114, zyv15, zyv15, zyv15, zyv15, zyv114, zyv114, zyv114])
noncomputable def zyr375 : List zC := [zyc60, zyc60, zyc60, zyc69, zyc10, zyc10, zyc10, zyc12, zyc70, zyc8, zyc8, zyc70, zyc8, zyc8, zyc441, zyc52]
noncomputable def zyh438 : zH := (126, [zyr9, zyr10, zyr11, zyr12, zyr13, zyr375, zyr6, zyr7], zym9)
noncomputable def zyc442 : zC := .inr (8, [zyv114, zyv15, zyv15, zyv15, zyv114, zyv114, zyv114, zyv114, zyv15, zyv114, zyv15, zyv15, zyv126, zyv17, zyv314, zyv350, zyv124, zyv114, zyv114, zyv114, zyv15, zyv36, zyv129, zyv114, zyv15, zyv114, zyv114, zyv15, zyv15, zyv114, zyv114, zyv114, zyv114, zyv114, zyv114, zyv114, zyv114, zyv114, zyv114, zyv15, zyv114, zyv114, zyv114, zyv114, zyv15, zyv15, zyv15, zyv15, zyv114, zyv114, zyv114])
noncomputable def zyr376 : List zC := [zyc60, zyc60, zyc60, zyc69, zyc10, zyc10, zyc10, zyc12, zyc70, zyc8, zyc8, zyc70, zyc8, zyc8, zyc442, zyc52]
noncomputable def zyh439 : zH := (126, [zyr9, zyr10, zyr11, zyr12, zyr13, zyr376, zyr6, zyr7], 0)
noncomputable def zyh440 : zH := (126, [zyr9, zyr10, zyr11, zyr12, zyr13, zyr376, zyr6, zyr7], zym9)
noncomputable def zyc443 : zC := .inr (8, [zyv114, zyv15, zyv15, zyv15, zyv114, zyv114, zyv114, zyv114, zyv15, zyv114, zyv15, zyv15, zyv126, zyv17, zyv314, zyv351, zyv239, zyv114, zyv114, zyv114, zyv15, zyv36, zyv129, zyv114, zyv15, zyv114, zyv114, zyv15, zyv15, zyv114, zyv114, zyv114, zyv114, zyv114, zyv114, zyv114, zyv114, zyv114, zyv114, zyv15, zyv114, zyv114, zyv114, zyv114, zyv15, zyv15, zyv15, zyv15, zyv114, zyv114, zyv114])
noncomputable def zyr377 : List zC := [zyc60, zyc60, zyc60, zyc69, zyc10, zyc10, zyc10, zyc12, zyc70, zyc8, zyc8, zyc70, zyc8, zyc8, zyc443, zyc52]
noncomputable def zyh441 : zH := (126, [zyr9, zyr10, zyr11, zyr12, zyr13, zyr377, zyr6, zyr7], zym9)
noncomputable def zyc444 : zC := .inr (8, [zyv114, zyv15, zyv15, zyv15, zyv114, zyv114, zyv114, zyv114, zyv15, zyv114, zyv15, zyv15, zyv126, zyv17, zyv314, zyv351, zyv124, zyv114, zyv114, zyv114, zyv15, zyv36, zyv129, zyv114, zyv15, zyv114, zyv114, zyv15, zyv15, zyv114, zyv114, zyv114, zyv114, zyv114, zyv114, zyv114, zyv114, zyv114, zyv114, zyv15, zyv114, zyv114, zyv114, zyv114, zyv15, zyv15, zyv15, zyv15, zyv114, zyv114, zyv114])
noncomputable def zyr378 : List zC := [zyc60, zyc60, zyc60, zyc69, zyc10, zyc10, zyc10, zyc12, zyc70, zyc8, zyc8, zyc70, zyc8, zyc8, zyc444, zyc52]
noncomputable def zyh442 : zH := (126, [zyr9, zyr10, zyr11, zyr12, zyr13, zyr378, zyr6, zyr7], 0)
noncomputable def zyh443 : zH := (126, [zyr9, zyr10, zyr11, zyr12, zyr13, zyr378, zyr6, zyr7], zym9)
noncomputable def zyc445 : zC := .inr (8, [zyv114, zyv15, zyv15, zyv15, zyv114, zyv114, zyv114, zyv114, zyv15, zyv114, zyv15, zyv15, zyv126, zyv17, zyv314, zyv352, zyv239, zyv114, zyv114, zyv114, zyv15, zyv36, zyv129, zyv114, zyv15, zyv114, zyv114, zyv15, zyv15, zyv114, zyv114, zyv114, zyv114, zyv114, zyv114, zyv114, zyv114, zyv114, zyv114, zyv15, zyv114, zyv114, zyv114, zyv114, zyv15, zyv15, zyv15, zyv15, zyv114, zyv114, zyv114])
noncomputable def zyr379 : List zC := [zyc60, zyc60, zyc60, zyc69, zyc10, zyc10, zyc10, zyc12, zyc70, zyc8, zyc8, zyc70, zyc8, zyc8, zyc445, zyc52]
noncomputable def zyh444 : zH := (126, [zyr9, zyr10, zyr11, zyr12, zyr13, zyr379, zyr6, zyr7], zym9)
noncomputable def zyc446 : zC := .inr (8, [zyv114, zyv15, zyv15, zyv15, zyv114, zyv114, zyv114, zyv114, zyv15, zyv114, zyv15, zyv15, zyv126, zyv17, zyv314, zyv352, zyv124, zyv114, zyv114, zyv114, zyv15, zyv36, zyv129, zyv114, zyv15, zyv114, zyv114, zyv15, zyv15, zyv114, zyv114, zyv114, zyv114, zyv114, zyv114, zyv114, zyv114, zyv114, zyv114, zyv15, zyv114, zyv114, zyv114, zyv114, zyv15, zyv15, zyv15, zyv15, zyv114, zyv114, zyv114])
noncomputable def zyr380 : List zC := [zyc60, zyc60, zyc60, zyc69, zyc10, zyc10, zyc10, zyc12, zyc70, zyc8, zyc8, zyc70, zyc8, zyc8, zyc446, zyc52]
noncomputable def zyh445 : zH := (126, [zyr9, zyr10, zyr11, zyr12, zyr13, zyr380, zyr6, zyr7], 0)
noncomputable def zyh446 : zH := (126, [zyr9, zyr10, zyr11, zyr12, zyr13, zyr380, zyr6, zyr7], zym9)
noncomputable def zyc447 : zC := .inr (8, [zyv114, zyv15, zyv15, zyv15, zyv114, zyv114, zyv114, zyv114, zyv15, zyv114, zyv15, zyv15, zyv126, zyv17, zyv314, zyv353, zyv239, zyv114, zyv114, zyv114, zyv15, zyv36, zyv129, zyv114, zyv15, zyv114, zyv114, zyv15, zyv15, zyv114, zyv114, zyv114, zyv114, zyv114, zyv114, zyv114, zyv114, zyv114, zyv114, zyv15, zyv114, zyv114, zyv114, zyv114, zyv15, zyv15, zyv15, zyv15, zyv114, zyv114, zyv114])
noncomputable def zyr381 : List zC := [zyc60, zyc60, zyc60, zyc69, zyc10, zyc10, zyc10, zyc12, zyc70, zyc8, zyc8, zyc70, zyc8, zyc8, zyc447, zyc52]
noncomputable def zyh447 : zH := (126, [zyr9, zyr10, zyr11, zyr12, zyr13, zyr381, zyr6, zyr7], zym9)
noncomputable def zyc448 : zC := .inr (8, [zyv114, zyv15, zyv15, zyv15, zyv114, zyv114, zyv114, zyv114, zyv15, zyv114, zyv15, zyv15, zyv126, zyv17, zyv314, zyv353, zyv124, zyv114, zyv114, zyv114, zyv15, zyv36, zyv129, zyv114, zyv15, zyv114, zyv114, zyv15, zyv15, zyv114, zyv114, zyv114, zyv114, zyv114, zyv114, zyv114, zyv114, zyv114, zyv114, zyv15, zyv114, zyv114, zyv114, zyv114, zyv15, zyv15, zyv15, zyv15, zyv114, zyv114, zyv114])
noncomputable def zyr382 : List zC := [zyc60, zyc60, zyc60, zyc69, zyc10, zyc10, zyc10, zyc12, zyc70, zyc8, zyc8, zyc70, zyc8, zyc8, zyc448, zyc52]
noncomputable def zyh448 : zH := (126, [zyr9, zyr10, zyr11, zyr12, zyr13, zyr382, zyr6, zyr7], 0)
noncomputable def zyh449 : zH := (126, [zyr9, zyr10, zyr11, zyr12, zyr13, zyr382, zyr6, zyr7], zym9)
noncomputable def zyc449 : zC := .inr (8, [zyv114, zyv15, zyv15, zyv15, zyv114, zyv114, zyv114, zyv114, zyv15, zyv114, zyv15, zyv15, zyv126, zyv17, zyv314, zyv354, zyv239, zyv114, zyv114, zyv114, zyv15, zyv36, zyv129, zyv114, zyv15, zyv114, zyv114, zyv15, zyv15, zyv114, zyv114, zyv114, zyv114, zyv114, zyv114, zyv114, zyv114, zyv114, zyv114, zyv15, zyv114, zyv114, zyv114, zyv114, zyv15, zyv15, zyv15, zyv15, zyv114, zyv114, zyv114])
noncomputable def zyr383 : List zC := [zyc60, zyc60, zyc60, zyc69, zyc10, zyc10, zyc10, zyc12, zyc70, zyc8, zyc8, zyc70, zyc8, zyc8, zyc449, zyc52]
noncomputable def zyh450 : zH := (126, [zyr9, zyr10, zyr11, zyr12, zyr13, zyr383, zyr6, zyr7], zym9)
noncomputable def zyc450 : zC := .inr (8, [zyv114, zyv15, zyv15, zyv15, zyv114, zyv114, zyv114, zyv114, zyv15, zyv114, zyv15, zyv15, zyv126, zyv17, zyv314, zyv354, zyv124, zyv114, zyv114, zyv114, zyv15, zyv36, zyv129, zyv114, zyv15, zyv114, zyv114, zyv15, zyv15, zyv114, zyv114, zyv114, zyv114, zyv114, zyv114, zyv114, zyv114, zyv114, zyv114, zyv15, zyv114, zyv114, zyv114, zyv114, zyv15, zyv15, zyv15, zyv15, zyv114, zyv114, zyv114])
noncomputable def zyr384 : List zC := [zyc60, zyc60, zyc60, zyc69, zyc10, zyc10, zyc10, zyc12, zyc70, zyc8, zyc8, zyc70, zyc8, zyc8, zyc450, zyc52]
noncomputable def zyh451 : zH := (126, [zyr9, zyr10, zyr11, zyr12, zyr13, zyr384, zyr6, zyr7], 0)
noncomputable def zyh452 : zH := (126, [zyr9, zyr10, zyr11, zyr12, zyr13, zyr384, zyr6, zyr7], zym9)
noncomputable def zyc451 : zC := .inr (8, [zyv114, zyv15, zyv15, zyv15, zyv114, zyv114, zyv114, zyv114, zyv15, zyv114, zyv15, zyv15, zyv126, zyv17, zyv314, zyv355, zyv239, zyv114, zyv114, zyv114, zyv15, zyv36, zyv129, zyv114, zyv15, zyv114, zyv114, zyv15, zyv15, zyv114, zyv114, zyv114, zyv114, zyv114, zyv114, zyv114, zyv114, zyv114, zyv114, zyv15, zyv114, zyv114, zyv114, zyv114, zyv15, zyv15, zyv15, zyv15, zyv114, zyv114, zyv114])
noncomputable def zyr385 : List zC := [zyc60, zyc60, zyc60, zyc69, zyc10, zyc10, zyc10, zyc12, zyc70, zyc8, zyc8, zyc70, zyc8, zyc8, zyc451, zyc52]
noncomputable def zyh453 : zH := (126, [zyr9, zyr10, zyr11, zyr12, zyr13, zyr385, zyr6, zyr7], zym9)
noncomputable def zyc452 : zC := .inr (8, [zyv114, zyv15, zyv15, zyv15, zyv114, zyv114, zyv114, zyv114, zyv15, zyv114, zyv15, zyv15, zyv126, zyv17, zyv314, zyv355, zyv124, zyv114, zyv114, zyv114, zyv15, zyv36, zyv129, zyv114, zyv15, zyv114, zyv114, zyv15, zyv15, zyv114, zyv114, zyv114, zyv114, zyv114, zyv114, zyv114, zyv114, zyv114, zyv114, zyv15, zyv114, zyv114, zyv114, zyv114, zyv15, zyv15, zyv15, zyv15, zyv114, zyv114, zyv114])
noncomputable def zyr386 : List zC := [zyc60, zyc60, zyc60, zyc69, zyc10, zyc10, zyc10, zyc12, zyc70, zyc8, zyc8, zyc70, zyc8, zyc8, zyc452, zyc52]
noncomputable def zyh454 : zH := (126, [zyr9, zyr10, zyr11, zyr12, zyr13, zyr386, zyr6, zyr7], 0)
noncomputable def zyh455 : zH := (126, [zyr9, zyr10, zyr11, zyr12, zyr13, zyr386, zyr6, zyr7], zym9)
noncomputable def zyc453 : zC := .inr (8, [zyv114, zyv15, zyv15, zyv15, zyv114, zyv114, zyv114, zyv114, zyv15, zyv114, zyv15, zyv15, zyv126, zyv17, zyv314, zyv356, zyv239, zyv114, zyv114, zyv114, zyv15, zyv36, zyv129, zyv114, zyv15, zyv114, zyv114, zyv15, zyv15, zyv114, zyv114, zyv114, zyv114, zyv114, zyv114, zyv114, zyv114, zyv114, zyv114, zyv15, zyv114, zyv114, zyv114, zyv114, zyv15, zyv15, zyv15, zyv15, zyv114, zyv114, zyv114])
noncomputable def zyr387 : List zC := [zyc60, zyc60, zyc60, zyc69, zyc10, zyc10, zyc10, zyc12, zyc70, zyc8, zyc8, zyc70, zyc8, zyc8, zyc453, zyc52]
noncomputable def zyh456 : zH := (126, [zyr9, zyr10, zyr11, zyr12, zyr13, zyr387, zyr6, zyr7], zym9)
noncomputable def zyc454 : zC := .inr (8, [zyv114, zyv15, zyv15, zyv15, zyv114, zyv114, zyv114, zyv114, zyv15, zyv114, zyv15, zyv15, zyv126, zyv17, zyv314, zyv356, zyv124, zyv114, zyv114, zyv114, zyv15, zyv36, zyv129, zyv114, zyv15, zyv114, zyv114, zyv15, zyv15, zyv114, zyv114, zyv114, zyv114, zyv114, zyv114, zyv114, zyv114, zyv114, zyv114, zyv15, zyv114, zyv114, zyv114, zyv114, zyv15, zyv15, zyv15, zyv15, zyv114, zyv114, zyv114])
noncomputable def zyr388 : List zC := [zyc60, zyc60, zyc60, zyc69, zyc10, zyc10, zyc10, zyc12, zyc70, zyc8, zyc8, zyc70, zyc8, zyc8, zyc454, zyc52]
noncomputable def zyh457 : zH := (126, [zyr9, zyr10, zyr11, zyr12, zyr13, zyr388, zyr6, zyr7], 0)
noncomputable def zyh458 : zH := (126, [zyr9, zyr10, zyr11, zyr12, zyr13, zyr388, zyr6, zyr7], zym9)
noncomputable def zyc455 : zC := .inr (8, [zyv114, zyv15, zyv15, zyv15, zyv114, zyv114, zyv114, zyv114, zyv15, zyv114, zyv15, zyv15, zyv126, zyv17, zyv314, zyv314, zyv239, zyv114, zyv114, zyv114, zyv15, zyv36, zyv129, zyv114, zyv15, zyv114, zyv114, zyv15, zyv15, zyv114, zyv114, zyv114, zyv114, zyv114, zyv114, zyv114, zyv114, zyv114, zyv114, zyv15, zyv114, zyv114, zyv114, zyv114, zyv15, zyv15, zyv15, zyv15, zyv114, zyv114, zyv114])
noncomputable def zyr389 : List zC := [zyc60, zyc60, zyc60, zyc69, zyc10, zyc10, zyc10, zyc12, zyc70, zyc8, zyc8, zyc70, zyc8, zyc8, zyc455, zyc52]
noncomputable def zyh459 : zH := (126, [zyr9, zyr10, zyr11, zyr12, zyr13, zyr389, zyr6, zyr7], zym9)
noncomputable def zyc456 : zC := .inr (8, [zyv114, zyv15, zyv15, zyv15, zyv114, zyv114, zyv114, zyv114, zyv15, zyv114, zyv15, zyv15, zyv126, zyv17, zyv314, zyv314, zyv124, zyv114, zyv114, zyv114, zyv15, zyv36, zyv129, zyv114, zyv15, zyv114, zyv114, zyv15, zyv15, zyv114, zyv114, zyv114, zyv114, zyv114, zyv114, zyv114, zyv114, zyv114, zyv114, zyv15, zyv114, zyv114, zyv114, zyv114, zyv15, zyv15, zyv15, zyv15, zyv114, zyv114, zyv114])
noncomputable def zyr390 : List zC := [zyc60, zyc60, zyc60, zyc69, zyc10, zyc10, zyc10, zyc12, zyc70, zyc8, zyc8, zyc70, zyc8, zyc8, zyc456, zyc52]
noncomputable def zyh460 : zH := (126, [zyr9, zyr10, zyr11, zyr12, zyr13, zyr390, zyr6, zyr7], 0)
noncomputable def zyh461 : zH := (126, [zyr9, zyr10, zyr11, zyr12, zyr13, zyr390, zyr6, zyr7], zym9)
noncomputable def zyc457 : zC := .inr (8, [zyv114, zyv15, zyv15, zyv15, zyv114, zyv114, zyv114, zyv114, zyv15, zyv114, zyv15, zyv15, zyv126, zyv17, zyv314, zyv356, zyv17, zyv114, zyv114, zyv114, zyv15, zyv36, zyv129, zyv114, zyv15, zyv114, zyv114, zyv15, zyv15, zyv114, zyv114, zyv114, zyv114, zyv114, zyv114, zyv114, zyv114, zyv114, zyv114, zyv15, zyv114, zyv114, zyv114, zyv114, zyv15, zyv15, zyv15, zyv15, zyv114, zyv114, zyv114])
noncomputable def zyr391 : List zC := [zyc60, zyc60, zyc60, zyc69, zyc10, zyc10, zyc10, zyc12, zyc70, zyc8, zyc8, zyc70, zyc8, zyc8, zyc457, zyc52]
noncomputable def zyh462 : zH := (126, [zyr9, zyr10, zyr11, zyr12, zyr13, zyr391, zyr6, zyr7], zym9)
noncomputable def zyc458 : zC := .inr (8, [zyv114, zyv15, zyv15, zyv15, zyv114, zyv114, zyv114, zyv114, zyv15, zyv114, zyv15, zyv15, zyv126, zyv17, zyv314, zyv355, zyv17, zyv114, zyv114, zyv114, zyv15, zyv36, zyv129, zyv114, zyv15, zyv114, zyv114, zyv15, zyv15, zyv114, zyv114, zyv114, zyv114, zyv114, zyv114, zyv114, zyv114, zyv114, zyv114, zyv15, zyv114, zyv114, zyv114, zyv114, zyv15, zyv15, zyv15, zyv15, zyv114, zyv114, zyv114])
noncomputable def zyr392 : List zC := [zyc60, zyc60, zyc60, zyc69, zyc10, zyc10, zyc10, zyc12, zyc70, zyc8, zyc8, zyc70, zyc8, zyc8, zyc458, zyc52]
noncomputable def zyh463 : zH := (126, [zyr9, zyr10, zyr11, zyr12, zyr13, zyr392, zyr6, zyr7], zym9)
noncomputable def zyc459 : zC := .inr (8, [zyv114, zyv15, zyv15, zyv15, zyv114, zyv114, zyv114, zyv114, zyv15, zyv114, zyv15, zyv15, zyv126, zyv17, zyv314, zyv354, zyv17, zyv114, zyv114, zyv114, zyv15, zyv36, zyv129, zyv114, zyv15, zyv114, zyv114, zyv15, zyv15, zyv114, zyv114, zyv114, zyv114, zyv114, zyv114, zyv114, zyv114, zyv114, zyv114, zyv15, zyv114, zyv114, zyv114, zyv114, zyv15, zyv15, zyv15, zyv15, zyv114, zyv114, zyv114])
noncomputable def zyr393 : List zC := [zyc60, zyc60, zyc60, zyc69, zyc10, zyc10, zyc10, zyc12, zyc70, zyc8, zyc8, zyc70, zyc8, zyc8, zyc459, zyc52]
noncomputable def zyh464 : zH := (126, [zyr9, zyr10, zyr11, zyr12, zyr13, zyr393, zyr6, zyr7], zym9)
noncomputable def zyc460 : zC := .inr (8, [zyv114, zyv15, zyv15, zyv15, zyv114, zyv114, zyv114, zyv114, zyv15, zyv114, zyv15, zyv15, zyv126, zyv17, zyv314, zyv353, zyv17, zyv114, zyv114, zyv114, zyv15, zyv36, zyv129, zyv114, zyv15, zyv114, zyv114, zyv15, zyv15, zyv114, zyv114, zyv114, zyv114, zyv114, zyv114, zyv114, zyv114, zyv114, zyv114, zyv15, zyv114, zyv114, zyv114, zyv114, zyv15, zyv15, zyv15, zyv15, zyv114, zyv114, zyv114])
noncomputable def zyr394 : List zC := [zyc60, zyc60, zyc60, zyc69, zyc10, zyc10, zyc10, zyc12, zyc70, zyc8, zyc8, zyc70, zyc8, zyc8, zyc460, zyc52]
noncomputable def zyh465 : zH := (126, [zyr9, zyr10, zyr11, zyr12, zyr13, zyr394, zyr6, zyr7], zym9)
/-! X8_passes -/
noncomputable def zyx317a : List zAV := [zyv315, zyv318]
noncomputable def zyx317q : List (Option zAV × zH) := [(some (.inl ((.ofNat 0, .ofNat 0), none)), zyh392), (some (.inl ((.ofNat 1, .ofNat 1), none)), zyh393)]
noncomputable def zyx317d : zKw := (263, 2, 3, 420, zyx317a, zyh391, zyx317q)
noncomputable def zbzyx317e : Bool := zrunw zprog2 (zovW []) 100000 zcut0 3 420 kX8_passes (zkinL zyx317q) 0 (zargs 0 zyx317a, [], (zyh391.1, zyh391.2.1, 0), 0, 0)
/-! X8_passes -/
noncomputable def zyx318a : List zAV := [zyv315, zyv318]
noncomputable def zyx318q : List (Option zAV × zH) := [(some (.inl ((.ofNat 0, .ofNat 0), none)), zyh395), (some (.inl ((.ofNat 1, .ofNat 1), none)), zyh396)]
noncomputable def zyx318d : zKw := (263, 2, 3, 420, zyx318a, zyh394, zyx318q)
noncomputable def zbzyx318e : Bool := zrunw zprog2 (zovW []) 100000 zcut0 3 420 kX8_passes (zkinL zyx318q) 0 (zargs 0 zyx318a, [], (zyh394.1, zyh394.2.1, 0), 0, 0)
/-! X8_passes -/
noncomputable def zyx319a : List zAV := [zyv315, zyv318]
noncomputable def zyx319q : List (Option zAV × zH) := [(some (.inl ((.ofNat 0, .ofNat 0), none)), zyh398), (some (.inl ((.ofNat 1, .ofNat 1), none)), zyh399)]
noncomputable def zyx319d : zKw := (263, 2, 3, 420, zyx319a, zyh397, zyx319q)
noncomputable def zbzyx319e : Bool := zrunw zprog2 (zovW []) 100000 zcut0 3 420 kX8_passes (zkinL zyx319q) 0 (zargs 0 zyx319a, [], (zyh397.1, zyh397.2.1, 0), 0, 0)
/-! X8_passes -/
noncomputable def zyx320a : List zAV := [zyv315, zyv318]
noncomputable def zyx320q : List (Option zAV × zH) := [(some (.inl ((.ofNat 0, .ofNat 0), none)), zyh401), (some (.inl ((.ofNat 1, .ofNat 1), none)), zyh402)]
noncomputable def zyx320d : zKw := (263, 2, 3, 420, zyx320a, zyh400, zyx320q)
noncomputable def zbzyx320e : Bool := zrunw zprog2 (zovW []) 100000 zcut0 3 420 kX8_passes (zkinL zyx320q) 0 (zargs 0 zyx320a, [], (zyh400.1, zyh400.2.1, 0), 0, 0)
/-! X8_passes -/
noncomputable def zyx321a : List zAV := [zyv315, zyv318]
noncomputable def zyx321q : List (Option zAV × zH) := [(some (.inl ((.ofNat 0, .ofNat 0), none)), zyh404), (some (.inl ((.ofNat 1, .ofNat 1), none)), zyh405)]
noncomputable def zyx321d : zKw := (263, 2, 3, 420, zyx321a, zyh403, zyx321q)
noncomputable def zbzyx321e : Bool := zrunw zprog2 (zovW []) 100000 zcut0 3 420 kX8_passes (zkinL zyx321q) 0 (zargs 0 zyx321a, [], (zyh403.1, zyh403.2.1, 0), 0, 0)
/-! X8_passes -/
noncomputable def zyx322a : List zAV := [zyv315, zyv318]
noncomputable def zyx322q : List (Option zAV × zH) := [(some (.inl ((.ofNat 0, .ofNat 0), none)), zyh407), (some (.inl ((.ofNat 1, .ofNat 1), none)), zyh408)]
noncomputable def zyx322d : zKw := (263, 2, 3, 420, zyx322a, zyh406, zyx322q)
noncomputable def zbzyx322e : Bool := zrunw zprog2 (zovW []) 100000 zcut0 3 420 kX8_passes (zkinL zyx322q) 0 (zargs 0 zyx322a, [], (zyh406.1, zyh406.2.1, 0), 0, 0)
/-! X8_passes -/
noncomputable def zyx323a : List zAV := [zyv315, zyv318]
noncomputable def zyx323q : List (Option zAV × zH) := [(some (.inl ((.ofNat 0, .ofNat 0), none)), zyh410), (some (.inl ((.ofNat 1, .ofNat 1), none)), zyh411)]
noncomputable def zyx323d : zKw := (263, 2, 3, 420, zyx323a, zyh409, zyx323q)
noncomputable def zbzyx323e : Bool := zrunw zprog2 (zovW []) 100000 zcut0 3 420 kX8_passes (zkinL zyx323q) 0 (zargs 0 zyx323a, [], (zyh409.1, zyh409.2.1, 0), 0, 0)
/-! X8_passes -/
noncomputable def zyx324a : List zAV := [zyv315, zyv318]
noncomputable def zyx324q : List (Option zAV × zH) := [(some (.inl ((.ofNat 0, .ofNat 0), none)), zyh413), (some (.inl ((.ofNat 1, .ofNat 1), none)), zyh414)]
noncomputable def zyx324d : zKw := (263, 2, 3, 420, zyx324a, zyh412, zyx324q)
noncomputable def zbzyx324e : Bool := zrunw zprog2 (zovW []) 100000 zcut0 3 420 kX8_passes (zkinL zyx324q) 0 (zargs 0 zyx324a, [], (zyh412.1, zyh412.2.1, 0), 0, 0)
/-! X8_passes -/
noncomputable def zyx325a : List zAV := [zyv315, zyv318]
noncomputable def zyx325q : List (Option zAV × zH) := [(some (.inl ((.ofNat 0, .ofNat 0), none)), zyh416), (some (.inl ((.ofNat 1, .ofNat 1), none)), zyh417)]
noncomputable def zyx325d : zKw := (263, 2, 3, 420, zyx325a, zyh415, zyx325q)
noncomputable def zbzyx325e : Bool := zrunw zprog2 (zovW []) 100000 zcut0 3 420 kX8_passes (zkinL zyx325q) 0 (zargs 0 zyx325a, [], (zyh415.1, zyh415.2.1, 0), 0, 0)
/-! X8_passes -/
noncomputable def zyx326a : List zAV := [zyv315, zyv318]
noncomputable def zyx326q : List (Option zAV × zH) := [(some (.inl ((.ofNat 0, .ofNat 0), none)), zyh419), (some (.inl ((.ofNat 1, .ofNat 1), none)), zyh420)]
noncomputable def zyx326d : zKw := (263, 2, 3, 420, zyx326a, zyh418, zyx326q)
noncomputable def zbzyx326e : Bool := zrunw zprog2 (zovW []) 100000 zcut0 3 420 kX8_passes (zkinL zyx326q) 0 (zargs 0 zyx326a, [], (zyh418.1, zyh418.2.1, 0), 0, 0)
/-! X8_passes -/
noncomputable def zyx327a : List zAV := [zyv315, zyv318]
noncomputable def zyx327q : List (Option zAV × zH) := [(some (.inl ((.ofNat 0, .ofNat 0), none)), zyh422), (some (.inl ((.ofNat 1, .ofNat 1), none)), zyh423)]
noncomputable def zyx327d : zKw := (263, 2, 3, 420, zyx327a, zyh421, zyx327q)
noncomputable def zbzyx327e : Bool := zrunw zprog2 (zovW []) 100000 zcut0 3 420 kX8_passes (zkinL zyx327q) 0 (zargs 0 zyx327a, [], (zyh421.1, zyh421.2.1, 0), 0, 0)
/-! X8_passes -/
noncomputable def zyx328a : List zAV := [zyv315, zyv318]
noncomputable def zyx328q : List (Option zAV × zH) := [(some (.inl ((.ofNat 0, .ofNat 0), none)), zyh425), (some (.inl ((.ofNat 1, .ofNat 1), none)), zyh426)]
noncomputable def zyx328d : zKw := (263, 2, 3, 420, zyx328a, zyh424, zyx328q)
noncomputable def zbzyx328e : Bool := zrunw zprog2 (zovW []) 100000 zcut0 3 420 kX8_passes (zkinL zyx328q) 0 (zargs 0 zyx328a, [], (zyh424.1, zyh424.2.1, 0), 0, 0)
/-! X8_passes -/
noncomputable def zyx329a : List zAV := [zyv315, zyv318]
noncomputable def zyx329q : List (Option zAV × zH) := [(some (.inl ((.ofNat 0, .ofNat 0), none)), zyh428), (some (.inl ((.ofNat 1, .ofNat 1), none)), zyh429)]
noncomputable def zyx329d : zKw := (263, 2, 3, 420, zyx329a, zyh427, zyx329q)
noncomputable def zbzyx329e : Bool := zrunw zprog2 (zovW []) 100000 zcut0 3 420 kX8_passes (zkinL zyx329q) 0 (zargs 0 zyx329a, [], (zyh427.1, zyh427.2.1, 0), 0, 0)
/-! X8_passes -/
noncomputable def zyx330a : List zAV := [zyv315, zyv318]
noncomputable def zyx330q : List (Option zAV × zH) := [(some (.inl ((.ofNat 0, .ofNat 0), none)), zyh431), (some (.inl ((.ofNat 1, .ofNat 1), none)), zyh432)]
noncomputable def zyx330d : zKw := (263, 2, 3, 420, zyx330a, zyh430, zyx330q)
noncomputable def zbzyx330e : Bool := zrunw zprog2 (zovW []) 100000 zcut0 3 420 kX8_passes (zkinL zyx330q) 0 (zargs 0 zyx330a, [], (zyh430.1, zyh430.2.1, 0), 0, 0)
/-! X8_passes -/
noncomputable def zyx331a : List zAV := [zyv315, zyv318]
noncomputable def zyx331q : List (Option zAV × zH) := [(some (.inl ((.ofNat 0, .ofNat 0), none)), zyh434), (some (.inl ((.ofNat 1, .ofNat 1), none)), zyh435)]
noncomputable def zyx331d : zKw := (263, 2, 3, 420, zyx331a, zyh433, zyx331q)
noncomputable def zbzyx331e : Bool := zrunw zprog2 (zovW []) 100000 zcut0 3 420 kX8_passes (zkinL zyx331q) 0 (zargs 0 zyx331a, [], (zyh433.1, zyh433.2.1, 0), 0, 0)
/-! X8_passes -/
noncomputable def zyx332a : List zAV := [zyv315, zyv318]
noncomputable def zyx332q : List (Option zAV × zH) := [(some (.inl ((.ofNat 0, .ofNat 0), none)), zyh437), (some (.inl ((.ofNat 1, .ofNat 1), none)), zyh438)]
noncomputable def zyx332d : zKw := (263, 2, 3, 420, zyx332a, zyh436, zyx332q)
noncomputable def zbzyx332e : Bool := zrunw zprog2 (zovW []) 100000 zcut0 3 420 kX8_passes (zkinL zyx332q) 0 (zargs 0 zyx332a, [], (zyh436.1, zyh436.2.1, 0), 0, 0)
/-! X8_passes -/
noncomputable def zyx333a : List zAV := [zyv315, zyv318]
noncomputable def zyx333q : List (Option zAV × zH) := [(some (.inl ((.ofNat 0, .ofNat 0), none)), zyh440), (some (.inl ((.ofNat 1, .ofNat 1), none)), zyh441)]
noncomputable def zyx333d : zKw := (263, 2, 3, 420, zyx333a, zyh439, zyx333q)
noncomputable def zbzyx333e : Bool := zrunw zprog2 (zovW []) 100000 zcut0 3 420 kX8_passes (zkinL zyx333q) 0 (zargs 0 zyx333a, [], (zyh439.1, zyh439.2.1, 0), 0, 0)
/-! X8_passes -/
noncomputable def zyx334a : List zAV := [zyv315, zyv318]
noncomputable def zyx334q : List (Option zAV × zH) := [(some (.inl ((.ofNat 0, .ofNat 0), none)), zyh443), (some (.inl ((.ofNat 1, .ofNat 1), none)), zyh444)]
noncomputable def zyx334d : zKw := (263, 2, 3, 420, zyx334a, zyh442, zyx334q)
noncomputable def zbzyx334e : Bool := zrunw zprog2 (zovW []) 100000 zcut0 3 420 kX8_passes (zkinL zyx334q) 0 (zargs 0 zyx334a, [], (zyh442.1, zyh442.2.1, 0), 0, 0)
/-! X8_passes -/
noncomputable def zyx335a : List zAV := [zyv315, zyv318]
noncomputable def zyx335q : List (Option zAV × zH) := [(some (.inl ((.ofNat 0, .ofNat 0), none)), zyh446), (some (.inl ((.ofNat 1, .ofNat 1), none)), zyh447)]
noncomputable def zyx335d : zKw := (263, 2, 3, 420, zyx335a, zyh445, zyx335q)
noncomputable def zbzyx335e : Bool := zrunw zprog2 (zovW []) 100000 zcut0 3 420 kX8_passes (zkinL zyx335q) 0 (zargs 0 zyx335a, [], (zyh445.1, zyh445.2.1, 0), 0, 0)
/-! X8_passes -/
noncomputable def zyx336a : List zAV := [zyv315, zyv318]
noncomputable def zyx336q : List (Option zAV × zH) := [(some (.inl ((.ofNat 0, .ofNat 0), none)), zyh449), (some (.inl ((.ofNat 1, .ofNat 1), none)), zyh450)]
noncomputable def zyx336d : zKw := (263, 2, 3, 420, zyx336a, zyh448, zyx336q)
noncomputable def zbzyx336e : Bool := zrunw zprog2 (zovW []) 100000 zcut0 3 420 kX8_passes (zkinL zyx336q) 0 (zargs 0 zyx336a, [], (zyh448.1, zyh448.2.1, 0), 0, 0)
/-! X8_passes -/
noncomputable def zyx337a : List zAV := [zyv315, zyv318]
noncomputable def zyx337q : List (Option zAV × zH) := [(some (.inl ((.ofNat 0, .ofNat 0), none)), zyh452), (some (.inl ((.ofNat 1, .ofNat 1), none)), zyh453)]
noncomputable def zyx337d : zKw := (263, 2, 3, 420, zyx337a, zyh451, zyx337q)
noncomputable def zbzyx337e : Bool := zrunw zprog2 (zovW []) 100000 zcut0 3 420 kX8_passes (zkinL zyx337q) 0 (zargs 0 zyx337a, [], (zyh451.1, zyh451.2.1, 0), 0, 0)
/-! X8_passes -/
noncomputable def zyx338a : List zAV := [zyv315, zyv318]
noncomputable def zyx338q : List (Option zAV × zH) := [(some (.inl ((.ofNat 0, .ofNat 0), none)), zyh455), (some (.inl ((.ofNat 1, .ofNat 1), none)), zyh456)]
noncomputable def zyx338d : zKw := (263, 2, 3, 420, zyx338a, zyh454, zyx338q)
noncomputable def zbzyx338e : Bool := zrunw zprog2 (zovW []) 100000 zcut0 3 420 kX8_passes (zkinL zyx338q) 0 (zargs 0 zyx338a, [], (zyh454.1, zyh454.2.1, 0), 0, 0)
/-! X8_passes -/
noncomputable def zyx339a : List zAV := [zyv315, zyv318]
noncomputable def zyx339q : List (Option zAV × zH) := [(some (.inl ((.ofNat 0, .ofNat 0), none)), zyh458), (some (.inl ((.ofNat 1, .ofNat 1), none)), zyh459)]
noncomputable def zyx339d : zKw := (263, 2, 3, 420, zyx339a, zyh457, zyx339q)
noncomputable def zbzyx339e : Bool := zrunw zprog2 (zovW []) 100000 zcut0 3 420 kX8_passes (zkinL zyx339q) 0 (zargs 0 zyx339a, [], (zyh457.1, zyh457.2.1, 0), 0, 0)
/-! X8_passes -/
noncomputable def zyx340a : List zAV := [zyv315, zyv318]
noncomputable def zyx340q : List (Option zAV × zH) := [(some (.inl ((.ofNat 0, .ofNat 0), none)), zyh461)]
noncomputable def zyx340d : zKw := (263, 2, 3, 420, zyx340a, zyh460, zyx340q)
noncomputable def zbzyx340e : Bool := zrunw zprog2 (zovW []) 100000 zcut0 3 420 kX8_passes (zkinL zyx340q) 0 (zargs 0 zyx340a, [], (zyh460.1, zyh460.2.1, 0), 0, 0)
/-! X8_thing -/
noncomputable def zyx341a : List zAV := [.inr (.inr (.inl 94)), .inl ((.ofNat 0, .ofNat 4), none)]
def zyx341r : Option zAV := some (.inl ((.negSucc 2147483647, .ofNat 2147483647), none))
noncomputable def zyx341d : zKw := (292, 4, 4, 540, zyx341a, zyh460, [(zyx341r, zyh461)])
noncomputable def zbzyx341e : Bool := zrunw zprog2 (zovW [zyx340d]) 100000 (zcutW [] none ((zyx341r, zyh461), 4, 540) []) 4 540 k2X8_thing (zkin zyx341r zyh461) 0 (zargs 0 zyx341a, [], (zyh460.1, zyh460.2.1, 0), 0, 0)
/-! X8_product ((('r', 102), 40, 40),) -/
noncomputable def zyx342a : List zAV := [.inr (.inr (.inl 94)), .inl ((.ofNat 0, .ofNat 4), none)]
def zyx342r : Option zAV := some (.inl ((.negSucc 2147483647, .ofNat 2147483647), none))
noncomputable def zyx342q : zPw := ((6, ([(0, .inr (.inr (.inl 94))), (1, .inl ((.ofNat 0, .ofNat 4), some (1, .ofNat 0))), (2, .inl ((.negSucc 2147483647, .ofNat 2147483647), some (2, .ofNat 0)))], [], zyh461, 0, 0), [], 0), (zyx342r, zyh461), 5, 660)
noncomputable def zbzyx342c : Bool := zchkX [(94, 15)] zprog2 (zovW [zyx341d]) 100000 k2X8_product [] [zyx342q] [zyx342q]
noncomputable def zyx342d : zKw := (265, 5, 5, 660, zyx342a, zyh460, [(zyx342r, zyh461)])
noncomputable def zbzyx342e : Bool := zrunw zprog2 (zovW [zyx341d]) 100000 (zcutW [(94, 15)] none ((zyx342r, zyh461), 5, 660) [zyx342q]) 5 660 k2X8_product (zkin zyx342r zyh461) 0 (zargs 0 zyx342a, [], (zyh460.1, zyh460.2.1, 0), 0, 0)
/-! X8_sum ((('r', 102), 40, 40),) -/
noncomputable def zyx343a : List zAV := [.inr (.inr (.inl 94)), .inl ((.ofNat 1, .ofNat 4), none)]
def zyx343r : Option zAV := some (.inl ((.negSucc 2147483647, .ofNat 2147483647), none))
noncomputable def zyx343q : zPw := ((6, ([(0, .inr (.inr (.inl 94))), (1, .inl ((.ofNat 0, .ofNat 4), some (1, .ofNat 0))), (2, .inl ((.negSucc 2147483647, .ofNat 2147483647), some (2, .ofNat 0)))], [], zyh461, 0, 0), [], 0), (zyx343r, zyh461), 6, 780)
noncomputable def zbzyx343c : Bool := zchkX [(94, 15)] zprog2 (zovW [zyx342d]) 100000 kX8_sum [] [zyx343q] [zyx343q]
noncomputable def zyx343d : zKw := (284, 5, 6, 780, zyx343a, zyh460, [(zyx343r, zyh461)])
noncomputable def zbzyx343e : Bool := zrunw zprog2 (zovW [zyx342d]) 100000 (zcutW [(94, 15)] none ((zyx343r, zyh461), 6, 780) [zyx343q]) 6 780 kX8_sum (zkin zyx343r zyh461) 0 (zargs 0 zyx343a, [], (zyh460.1, zyh460.2.1, 0), 0, 0)
/-! X8_heldBy -/
noncomputable def zyx344a : List zAV := [.inr (.inr (.inl 94)), .inl ((.ofNat 1, .ofNat 4), none)]
def zyx344r : Option zAV := some (.inl ((.negSucc 2147483647, .ofNat 2147483647), none))
noncomputable def zyx344d : zKw := (229, 3, 7, 900, zyx344a, zyh460, [(zyx344r, zyh461)])
noncomputable def zbzyx344e : Bool := zrunw zprog2 (zovW [zyx343d, zyx340d]) 100000 (zcutW [] none ((zyx344r, zyh461), 7, 900) []) 7 900 kX8_heldBy (zkin zyx344r zyh461) 0 (zargs 0 zyx344a, [], (zyh460.1, zyh460.2.1, 0), 0, 0)
/-! X8_oneOf -/
noncomputable def zyx345a : List zAV := [zyv315, zyv357, zyv358]
noncomputable def zyx345q : List (Option zAV × zH) := [(some (.inl ((.ofNat 0, .ofNat 0), none)), zyh462), (some (.inl ((.negSucc 175, .ofNat 79), none)), zyh459)]
noncomputable def zyx345d : zKw := (260, 3, 4, 480, zyx345a, zyh457, zyx345q)
noncomputable def zbzyx345e : Bool := zrunw zprog2 (zovW []) 100000 zcut0 4 480 kX8_oneOf (zkinL zyx345q) 0 (zargs 0 zyx345a, [], (zyh457.1, zyh457.2.1, 0), 0, 0)
/-! X8_number -/
noncomputable def zyx346a : List zAV := [.inr (.inr (.inl 94)), .inl ((.ofNat 3, .ofNat 3), none)]
def zyx346r : Option zAV := some (.inl ((.negSucc 2147483647, .ofNat 2147483647), none))
noncomputable def zyx346q0 : zPw := ((11, ([(0, .inr (.inr (.inl 94))), (1, .inl ((.ofNat 3, .ofNat 3), some (1, .ofNat 0))), (2, .inl ((.negSucc 2147483647, .ofNat 2147483647), some (2, .ofNat 0))), (3, .inl ((.ofNat 1, .ofNat 3), some (3, .ofNat 0)))], [], zyh458, 0, 0), [(3, .negSucc 1)], .ofNat 7), (zyx346r, zyh458), 5, 600)
noncomputable def zbzyx346c0 : Bool := zchkX [] zprog2 (zovW [zyx345d]) 100000 kX8_number [] [zyx346q0] [zyx346q0]
noncomputable def zyx346d : zKw := (259, 4, 5, 600, zyx346a, zyh457, [(zyx346r, zyh458)])
noncomputable def zbzyx346e : Bool := zrunw zprog2 (zovW [zyx345d]) 100000 (zcutW [] none ((zyx346r, zyh458), 5, 600) [zyx346q0]) 5 600 kX8_number (zkin zyx346r zyh458) 0 (zargs 0 zyx346a, [], (zyh457.1, zyh457.2.1, 0), 0, 0)
/-! X8_thing -/
noncomputable def zyx347a : List zAV := [.inr (.inr (.inl 94)), .inl ((.ofNat 0, .ofNat 4), none)]
def zyx347r : Option zAV := some (.inl ((.negSucc 2147483647, .ofNat 2147483647), none))
noncomputable def zyx347d : zKw := (292, 4, 8, 1020, zyx347a, zyh457, [(zyx347r, zyh458)])
noncomputable def zbzyx347e : Bool := zrunw zprog2 (zovW [zyx344d, zyx341d, zyx340d, zyx346d, zyx339d]) 100000 (zcutW [] none ((zyx347r, zyh458), 8, 1020) []) 8 1020 k2X8_thing (zkin zyx347r zyh458) 0 (zargs 0 zyx347a, [], (zyh457.1, zyh457.2.1, 0), 0, 0)
/-! X8_product ((('r', 102), 40, 39),) -/
noncomputable def zyx348a : List zAV := [.inr (.inr (.inl 94)), .inl ((.ofNat 0, .ofNat 4), none)]
def zyx348r : Option zAV := some (.inl ((.negSucc 2147483647, .ofNat 2147483647), none))
noncomputable def zyx348q : zPw := ((6, ([(0, .inr (.inr (.inl 94))), (1, .inl ((.ofNat 0, .ofNat 4), some (1, .ofNat 0))), (2, .inl ((.negSucc 2147483647, .ofNat 2147483647), some (2, .ofNat 0)))], [], zyh458, 0, 0), [], 0), (zyx348r, zyh458), 9, 1140)
noncomputable def zbzyx348c : Bool := zchkX [(94, 15)] zprog2 (zovW [zyx341d, zyx347d]) 100000 k2X8_product [zyx342q] [zyx348q] [zyx348q]
noncomputable def zyx348d : zKw := (265, 5, 9, 1140, zyx348a, zyh457, [(zyx348r, zyh458)])
noncomputable def zbzyx348e : Bool := zrunw zprog2 (zovW [zyx341d, zyx347d]) 100000 (zcutW [(94, 15)] none ((zyx348r, zyh458), 9, 1140) [zyx348q, zyx342q]) 9 1140 k2X8_product (zkin zyx348r zyh458) 0 (zargs 0 zyx348a, [], (zyh457.1, zyh457.2.1, 0), 0, 0)
/-! X8_sum ((('r', 102), 40, 39),) -/
noncomputable def zyx349a : List zAV := [.inr (.inr (.inl 94)), .inl ((.ofNat 1, .ofNat 4), none)]
def zyx349r : Option zAV := some (.inl ((.negSucc 2147483647, .ofNat 2147483647), none))
noncomputable def zyx349q : zPw := ((6, ([(0, .inr (.inr (.inl 94))), (1, .inl ((.ofNat 0, .ofNat 4), some (1, .ofNat 0))), (2, .inl ((.negSucc 2147483647, .ofNat 2147483647), some (2, .ofNat 0)))], [], zyh458, 0, 0), [], 0), (zyx349r, zyh458), 10, 1260)
noncomputable def zbzyx349c : Bool := zchkX [(94, 15)] zprog2 (zovW [zyx342d, zyx348d]) 100000 kX8_sum [zyx343q] [zyx349q] [zyx349q]
noncomputable def zyx349d : zKw := (284, 5, 10, 1260, zyx349a, zyh457, [(zyx349r, zyh458)])
noncomputable def zbzyx349e : Bool := zrunw zprog2 (zovW [zyx342d, zyx348d]) 100000 (zcutW [(94, 15)] none ((zyx349r, zyh458), 10, 1260) [zyx349q, zyx343q]) 10 1260 kX8_sum (zkin zyx349r zyh458) 0 (zargs 0 zyx349a, [], (zyh457.1, zyh457.2.1, 0), 0, 0)
/-! X8_heldBy -/
noncomputable def zyx350a : List zAV := [.inr (.inr (.inl 94)), .inl ((.ofNat 1, .ofNat 4), none)]
def zyx350r : Option zAV := some (.inl ((.negSucc 2147483647, .ofNat 2147483647), none))
noncomputable def zyx350d : zKw := (229, 3, 11, 1380, zyx350a, zyh457, [(zyx350r, zyh458)])
noncomputable def zbzyx350e : Bool := zrunw zprog2 (zovW [zyx343d, zyx349d, zyx339d]) 100000 (zcutW [] none ((zyx350r, zyh458), 11, 1380) []) 11 1380 kX8_heldBy (zkin zyx350r zyh458) 0 (zargs 0 zyx350a, [], (zyh457.1, zyh457.2.1, 0), 0, 0)
/-! X8_oneOf -/
noncomputable def zyx351a : List zAV := [zyv315, zyv357, zyv358]
noncomputable def zyx351q : List (Option zAV × zH) := [(some (.inl ((.ofNat 0, .ofNat 0), none)), zyh463), (some (.inl ((.negSucc 175, .ofNat 79), none)), zyh456)]
noncomputable def zyx351d : zKw := (260, 3, 4, 480, zyx351a, zyh454, zyx351q)
noncomputable def zbzyx351e : Bool := zrunw zprog2 (zovW []) 100000 zcut0 4 480 kX8_oneOf (zkinL zyx351q) 0 (zargs 0 zyx351a, [], (zyh454.1, zyh454.2.1, 0), 0, 0)
/-! X8_number -/
noncomputable def zyx352a : List zAV := [.inr (.inr (.inl 94)), .inl ((.ofNat 3, .ofNat 3), none)]
def zyx352r : Option zAV := some (.inl ((.negSucc 2147483647, .ofNat 2147483647), none))
noncomputable def zyx352q0 : zPw := ((11, ([(0, .inr (.inr (.inl 94))), (1, .inl ((.ofNat 3, .ofNat 3), some (1, .ofNat 0))), (2, .inl ((.negSucc 2147483647, .ofNat 2147483647), some (2, .ofNat 0))), (3, .inl ((.ofNat 1, .ofNat 3), some (3, .ofNat 0)))], [], zyh455, 0, 0), [(3, .negSucc 1)], .ofNat 7), (zyx352r, zyh455), 5, 600)
noncomputable def zbzyx352c0 : Bool := zchkX [] zprog2 (zovW [zyx351d]) 100000 kX8_number [] [zyx352q0] [zyx352q0]
noncomputable def zyx352d : zKw := (259, 4, 5, 600, zyx352a, zyh454, [(zyx352r, zyh455)])
noncomputable def zbzyx352e : Bool := zrunw zprog2 (zovW [zyx351d]) 100000 (zcutW [] none ((zyx352r, zyh455), 5, 600) [zyx352q0]) 5 600 kX8_number (zkin zyx352r zyh455) 0 (zargs 0 zyx352a, [], (zyh454.1, zyh454.2.1, 0), 0, 0)
/-! X8_thing -/
noncomputable def zyx353a : List zAV := [.inr (.inr (.inl 94)), .inl ((.ofNat 0, .ofNat 4), none)]
def zyx353r : Option zAV := some (.inl ((.negSucc 2147483647, .ofNat 2147483647), none))
noncomputable def zyx353d : zKw := (292, 4, 12, 1500, zyx353a, zyh454, [(zyx353r, zyh455)])
noncomputable def zbzyx353e : Bool := zrunw zprog2 (zovW [zyx350d, zyx347d, zyx339d, zyx352d, zyx338d]) 100000 (zcutW [] none ((zyx353r, zyh455), 12, 1500) []) 12 1500 k2X8_thing (zkin zyx353r zyh455) 0 (zargs 0 zyx353a, [], (zyh454.1, zyh454.2.1, 0), 0, 0)
/-! X8_product ((('r', 102), 40, 38),) -/
noncomputable def zyx354a : List zAV := [.inr (.inr (.inl 94)), .inl ((.ofNat 0, .ofNat 4), none)]
def zyx354r : Option zAV := some (.inl ((.negSucc 2147483647, .ofNat 2147483647), none))
noncomputable def zyx354q : zPw := ((6, ([(0, .inr (.inr (.inl 94))), (1, .inl ((.ofNat 0, .ofNat 4), some (1, .ofNat 0))), (2, .inl ((.negSucc 2147483647, .ofNat 2147483647), some (2, .ofNat 0)))], [], zyh455, 0, 0), [], 0), (zyx354r, zyh455), 13, 1620)
noncomputable def zbzyx354c : Bool := zchkX [(94, 15)] zprog2 (zovW [zyx347d, zyx353d]) 100000 k2X8_product [zyx348q, zyx342q] [zyx354q] [zyx354q]
noncomputable def zyx354d : zKw := (265, 5, 13, 1620, zyx354a, zyh454, [(zyx354r, zyh455)])
noncomputable def zbzyx354e : Bool := zrunw zprog2 (zovW [zyx347d, zyx353d]) 100000 (zcutW [(94, 15)] none ((zyx354r, zyh455), 13, 1620) [zyx354q, zyx348q, zyx342q]) 13 1620 k2X8_product (zkin zyx354r zyh455) 0 (zargs 0 zyx354a, [], (zyh454.1, zyh454.2.1, 0), 0, 0)
/-! X8_sum ((('r', 102), 40, 38),) -/
noncomputable def zyx355a : List zAV := [.inr (.inr (.inl 94)), .inl ((.ofNat 1, .ofNat 4), none)]
def zyx355r : Option zAV := some (.inl ((.negSucc 2147483647, .ofNat 2147483647), none))
noncomputable def zyx355q : zPw := ((6, ([(0, .inr (.inr (.inl 94))), (1, .inl ((.ofNat 0, .ofNat 4), some (1, .ofNat 0))), (2, .inl ((.negSucc 2147483647, .ofNat 2147483647), some (2, .ofNat 0)))], [], zyh455, 0, 0), [], 0), (zyx355r, zyh455), 14, 1740)
noncomputable def zbzyx355c : Bool := zchkX [(94, 15)] zprog2 (zovW [zyx348d, zyx354d]) 100000 kX8_sum [zyx349q, zyx343q] [zyx355q] [zyx355q]
noncomputable def zyx355d : zKw := (284, 5, 14, 1740, zyx355a, zyh454, [(zyx355r, zyh455)])
noncomputable def zbzyx355e : Bool := zrunw zprog2 (zovW [zyx348d, zyx354d]) 100000 (zcutW [(94, 15)] none ((zyx355r, zyh455), 14, 1740) [zyx355q, zyx349q, zyx343q]) 14 1740 kX8_sum (zkin zyx355r zyh455) 0 (zargs 0 zyx355a, [], (zyh454.1, zyh454.2.1, 0), 0, 0)
/-! X8_heldBy -/
noncomputable def zyx356a : List zAV := [.inr (.inr (.inl 94)), .inl ((.ofNat 1, .ofNat 4), none)]
def zyx356r : Option zAV := some (.inl ((.negSucc 2147483647, .ofNat 2147483647), none))
noncomputable def zyx356d : zKw := (229, 3, 15, 1860, zyx356a, zyh454, [(zyx356r, zyh455)])
noncomputable def zbzyx356e : Bool := zrunw zprog2 (zovW [zyx349d, zyx355d, zyx338d]) 100000 (zcutW [] none ((zyx356r, zyh455), 15, 1860) []) 15 1860 kX8_heldBy (zkin zyx356r zyh455) 0 (zargs 0 zyx356a, [], (zyh454.1, zyh454.2.1, 0), 0, 0)
/-! X8_oneOf -/
noncomputable def zyx357a : List zAV := [zyv315, zyv357, zyv358]
noncomputable def zyx357q : List (Option zAV × zH) := [(some (.inl ((.ofNat 0, .ofNat 0), none)), zyh464), (some (.inl ((.negSucc 175, .ofNat 79), none)), zyh453)]
noncomputable def zyx357d : zKw := (260, 3, 4, 480, zyx357a, zyh451, zyx357q)
noncomputable def zbzyx357e : Bool := zrunw zprog2 (zovW []) 100000 zcut0 4 480 kX8_oneOf (zkinL zyx357q) 0 (zargs 0 zyx357a, [], (zyh451.1, zyh451.2.1, 0), 0, 0)
/-! X8_number -/
noncomputable def zyx358a : List zAV := [.inr (.inr (.inl 94)), .inl ((.ofNat 3, .ofNat 3), none)]
def zyx358r : Option zAV := some (.inl ((.negSucc 2147483647, .ofNat 2147483647), none))
noncomputable def zyx358q0 : zPw := ((11, ([(0, .inr (.inr (.inl 94))), (1, .inl ((.ofNat 3, .ofNat 3), some (1, .ofNat 0))), (2, .inl ((.negSucc 2147483647, .ofNat 2147483647), some (2, .ofNat 0))), (3, .inl ((.ofNat 1, .ofNat 3), some (3, .ofNat 0)))], [], zyh452, 0, 0), [(3, .negSucc 1)], .ofNat 7), (zyx358r, zyh452), 5, 600)
noncomputable def zbzyx358c0 : Bool := zchkX [] zprog2 (zovW [zyx357d]) 100000 kX8_number [] [zyx358q0] [zyx358q0]
noncomputable def zyx358d : zKw := (259, 4, 5, 600, zyx358a, zyh451, [(zyx358r, zyh452)])
noncomputable def zbzyx358e : Bool := zrunw zprog2 (zovW [zyx357d]) 100000 (zcutW [] none ((zyx358r, zyh452), 5, 600) [zyx358q0]) 5 600 kX8_number (zkin zyx358r zyh452) 0 (zargs 0 zyx358a, [], (zyh451.1, zyh451.2.1, 0), 0, 0)
/-! X8_thing -/
noncomputable def zyx359a : List zAV := [.inr (.inr (.inl 94)), .inl ((.ofNat 0, .ofNat 4), none)]
def zyx359r : Option zAV := some (.inl ((.negSucc 2147483647, .ofNat 2147483647), none))
noncomputable def zyx359d : zKw := (292, 4, 16, 1980, zyx359a, zyh451, [(zyx359r, zyh452)])
noncomputable def zbzyx359e : Bool := zrunw zprog2 (zovW [zyx356d, zyx353d, zyx338d, zyx358d, zyx337d]) 100000 (zcutW [] none ((zyx359r, zyh452), 16, 1980) []) 16 1980 k2X8_thing (zkin zyx359r zyh452) 0 (zargs 0 zyx359a, [], (zyh451.1, zyh451.2.1, 0), 0, 0)
/-! X8_product ((('r', 102), 40, 37),) -/
noncomputable def zyx360a : List zAV := [.inr (.inr (.inl 94)), .inl ((.ofNat 0, .ofNat 4), none)]
def zyx360r : Option zAV := some (.inl ((.negSucc 2147483647, .ofNat 2147483647), none))
noncomputable def zyx360q : zPw := ((6, ([(0, .inr (.inr (.inl 94))), (1, .inl ((.ofNat 0, .ofNat 4), some (1, .ofNat 0))), (2, .inl ((.negSucc 2147483647, .ofNat 2147483647), some (2, .ofNat 0)))], [], zyh452, 0, 0), [], 0), (zyx360r, zyh452), 17, 2100)
noncomputable def zbzyx360c : Bool := zchkX [(94, 15)] zprog2 (zovW [zyx353d, zyx359d]) 100000 k2X8_product [zyx354q, zyx348q, zyx342q] [zyx360q] [zyx360q]
noncomputable def zyx360d : zKw := (265, 5, 17, 2100, zyx360a, zyh451, [(zyx360r, zyh452)])
noncomputable def zbzyx360e : Bool := zrunw zprog2 (zovW [zyx353d, zyx359d]) 100000 (zcutW [(94, 15)] none ((zyx360r, zyh452), 17, 2100) [zyx360q, zyx354q, zyx348q, zyx342q]) 17 2100 k2X8_product (zkin zyx360r zyh452) 0 (zargs 0 zyx360a, [], (zyh451.1, zyh451.2.1, 0), 0, 0)
/-! X8_sum ((('r', 102), 40, 37),) -/
noncomputable def zyx361a : List zAV := [.inr (.inr (.inl 94)), .inl ((.ofNat 1, .ofNat 4), none)]
def zyx361r : Option zAV := some (.inl ((.negSucc 2147483647, .ofNat 2147483647), none))
noncomputable def zyx361q : zPw := ((6, ([(0, .inr (.inr (.inl 94))), (1, .inl ((.ofNat 0, .ofNat 4), some (1, .ofNat 0))), (2, .inl ((.negSucc 2147483647, .ofNat 2147483647), some (2, .ofNat 0)))], [], zyh452, 0, 0), [], 0), (zyx361r, zyh452), 18, 2220)
noncomputable def zbzyx361c : Bool := zchkX [(94, 15)] zprog2 (zovW [zyx354d, zyx360d]) 100000 kX8_sum [zyx355q, zyx349q, zyx343q] [zyx361q] [zyx361q]
noncomputable def zyx361d : zKw := (284, 5, 18, 2220, zyx361a, zyh451, [(zyx361r, zyh452)])
noncomputable def zbzyx361e : Bool := zrunw zprog2 (zovW [zyx354d, zyx360d]) 100000 (zcutW [(94, 15)] none ((zyx361r, zyh452), 18, 2220) [zyx361q, zyx355q, zyx349q, zyx343q]) 18 2220 kX8_sum (zkin zyx361r zyh452) 0 (zargs 0 zyx361a, [], (zyh451.1, zyh451.2.1, 0), 0, 0)
/-! X8_heldBy -/
noncomputable def zyx362a : List zAV := [.inr (.inr (.inl 94)), .inl ((.ofNat 1, .ofNat 4), none)]
def zyx362r : Option zAV := some (.inl ((.negSucc 2147483647, .ofNat 2147483647), none))
noncomputable def zyx362d : zKw := (229, 3, 19, 2340, zyx362a, zyh451, [(zyx362r, zyh452)])
noncomputable def zbzyx362e : Bool := zrunw zprog2 (zovW [zyx355d, zyx361d, zyx337d]) 100000 (zcutW [] none ((zyx362r, zyh452), 19, 2340) []) 19 2340 kX8_heldBy (zkin zyx362r zyh452) 0 (zargs 0 zyx362a, [], (zyh451.1, zyh451.2.1, 0), 0, 0)
/-! X8_oneOf -/
noncomputable def zyx363a : List zAV := [zyv315, zyv357, zyv358]
noncomputable def zyx363q : List (Option zAV × zH) := [(some (.inl ((.ofNat 0, .ofNat 0), none)), zyh465), (some (.inl ((.negSucc 175, .ofNat 79), none)), zyh450)]
noncomputable def zyx363d : zKw := (260, 3, 4, 480, zyx363a, zyh448, zyx363q)
noncomputable def zbzyx363e : Bool := zrunw zprog2 (zovW []) 100000 zcut0 4 480 kX8_oneOf (zkinL zyx363q) 0 (zargs 0 zyx363a, [], (zyh448.1, zyh448.2.1, 0), 0, 0)
/-! X8_number -/
noncomputable def zyx364a : List zAV := [.inr (.inr (.inl 94)), .inl ((.ofNat 3, .ofNat 3), none)]
def zyx364r : Option zAV := some (.inl ((.negSucc 2147483647, .ofNat 2147483647), none))
noncomputable def zyx364q0 : zPw := ((11, ([(0, .inr (.inr (.inl 94))), (1, .inl ((.ofNat 3, .ofNat 3), some (1, .ofNat 0))), (2, .inl ((.negSucc 2147483647, .ofNat 2147483647), some (2, .ofNat 0))), (3, .inl ((.ofNat 1, .ofNat 3), some (3, .ofNat 0)))], [], zyh449, 0, 0), [(3, .negSucc 1)], .ofNat 7), (zyx364r, zyh449), 5, 600)
noncomputable def zbzyx364c0 : Bool := zchkX [] zprog2 (zovW [zyx363d]) 100000 kX8_number [] [zyx364q0] [zyx364q0]
noncomputable def zyx364d : zKw := (259, 4, 5, 600, zyx364a, zyh448, [(zyx364r, zyh449)])
noncomputable def zbzyx364e : Bool := zrunw zprog2 (zovW [zyx363d]) 100000 (zcutW [] none ((zyx364r, zyh449), 5, 600) [zyx364q0]) 5 600 kX8_number (zkin zyx364r zyh449) 0 (zargs 0 zyx364a, [], (zyh448.1, zyh448.2.1, 0), 0, 0)
/-! X8_thing -/
noncomputable def zyx365a : List zAV := [.inr (.inr (.inl 94)), .inl ((.ofNat 0, .ofNat 4), none)]
def zyx365r : Option zAV := some (.inl ((.negSucc 2147483647, .ofNat 2147483647), none))
noncomputable def zyx365d : zKw := (292, 4, 20, 2460, zyx365a, zyh448, [(zyx365r, zyh449)])
noncomputable def zbzyx365e : Bool := zrunw zprog2 (zovW [zyx362d, zyx359d, zyx337d, zyx364d, zyx336d]) 100000 (zcutW [] none ((zyx365r, zyh449), 20, 2460) []) 20 2460 k2X8_thing (zkin zyx365r zyh449) 0 (zargs 0 zyx365a, [], (zyh448.1, zyh448.2.1, 0), 0, 0)
noncomputable def zyg16 : List Bool := [zbzyx317e, zbzyx318e, zbzyx319e, zbzyx320e, zbzyx321e, zbzyx322e, zbzyx323e, zbzyx324e, zbzyx325e, zbzyx326e, zbzyx327e, zbzyx328e, zbzyx329e, zbzyx330e, zbzyx331e, zbzyx332e, zbzyx333e, zbzyx334e, zbzyx335e, zbzyx336e, zbzyx337e, zbzyx338e, zbzyx339e, zbzyx340e, zbzyx341e, zbzyx342c, zbzyx342e, zbzyx343c, zbzyx343e, zbzyx344e, zbzyx345e, zbzyx346c0, zbzyx346e, zbzyx347e, zbzyx348c, zbzyx348e, zbzyx349c, zbzyx349e, zbzyx350e, zbzyx351e, zbzyx352c0, zbzyx352e, zbzyx353e, zbzyx354c, zbzyx354e, zbzyx355c, zbzyx355e, zbzyx356e, zbzyx357e, zbzyx358c0, zbzyx358e, zbzyx359e, zbzyx360c, zbzyx360e, zbzyx361c, zbzyx361e, zbzyx362e, zbzyx363e, zbzyx364c0, zbzyx364e, zbzyx365e]
set_option maxRecDepth 100000 in
theorem zyg16_ok : zall (fun b => b) zyg16 = true := by decide +kernel
theorem zyx317e : zrunw zprog2 (zovW []) 100000 zcut0 3 420 kX8_passes (zkinL zyx317q) 0 (zargs 0 zyx317a, [], (zyh391.1, zyh391.2.1, 0), 0, 0) = true := zall_ok zyg16_ok (k := 0) (a := zbzyx317e) rfl
theorem zyx317 {l : Launch} {D : va_G} {tys : List (ClassId × FieldType)} {o : zO} {z : Nat} (E : zEnv tys) : zKnW l D vwCl tys o z (zXX o z) zTs zprog2 zyx317d :=
  zkn_ml E (fun g => fun _ h => absurd h List.not_mem_nil) (show zget zprog2 263 = some mX8_passes from rfl) rfl (by decide) (by decide) (by decide) (by decide) zyx317e
theorem zyx318e : zrunw zprog2 (zovW []) 100000 zcut0 3 420 kX8_passes (zkinL zyx318q) 0 (zargs 0 zyx318a, [], (zyh394.1, zyh394.2.1, 0), 0, 0) = true := zall_ok zyg16_ok (k := 1) (a := zbzyx318e) rfl
theorem zyx318 {l : Launch} {D : va_G} {tys : List (ClassId × FieldType)} {o : zO} {z : Nat} (E : zEnv tys) : zKnW l D vwCl tys o z (zXX o z) zTs zprog2 zyx318d :=
  zkn_ml E (fun g => fun _ h => absurd h List.not_mem_nil) (show zget zprog2 263 = some mX8_passes from rfl) rfl (by decide) (by decide) (by decide) (by decide) zyx318e
theorem zyx319e : zrunw zprog2 (zovW []) 100000 zcut0 3 420 kX8_passes (zkinL zyx319q) 0 (zargs 0 zyx319a, [], (zyh397.1, zyh397.2.1, 0), 0, 0) = true := zall_ok zyg16_ok (k := 2) (a := zbzyx319e) rfl
theorem zyx319 {l : Launch} {D : va_G} {tys : List (ClassId × FieldType)} {o : zO} {z : Nat} (E : zEnv tys) : zKnW l D vwCl tys o z (zXX o z) zTs zprog2 zyx319d :=
  zkn_ml E (fun g => fun _ h => absurd h List.not_mem_nil) (show zget zprog2 263 = some mX8_passes from rfl) rfl (by decide) (by decide) (by decide) (by decide) zyx319e
theorem zyx320e : zrunw zprog2 (zovW []) 100000 zcut0 3 420 kX8_passes (zkinL zyx320q) 0 (zargs 0 zyx320a, [], (zyh400.1, zyh400.2.1, 0), 0, 0) = true := zall_ok zyg16_ok (k := 3) (a := zbzyx320e) rfl
theorem zyx320 {l : Launch} {D : va_G} {tys : List (ClassId × FieldType)} {o : zO} {z : Nat} (E : zEnv tys) : zKnW l D vwCl tys o z (zXX o z) zTs zprog2 zyx320d :=
  zkn_ml E (fun g => fun _ h => absurd h List.not_mem_nil) (show zget zprog2 263 = some mX8_passes from rfl) rfl (by decide) (by decide) (by decide) (by decide) zyx320e
theorem zyx321e : zrunw zprog2 (zovW []) 100000 zcut0 3 420 kX8_passes (zkinL zyx321q) 0 (zargs 0 zyx321a, [], (zyh403.1, zyh403.2.1, 0), 0, 0) = true := zall_ok zyg16_ok (k := 4) (a := zbzyx321e) rfl
theorem zyx321 {l : Launch} {D : va_G} {tys : List (ClassId × FieldType)} {o : zO} {z : Nat} (E : zEnv tys) : zKnW l D vwCl tys o z (zXX o z) zTs zprog2 zyx321d :=
  zkn_ml E (fun g => fun _ h => absurd h List.not_mem_nil) (show zget zprog2 263 = some mX8_passes from rfl) rfl (by decide) (by decide) (by decide) (by decide) zyx321e
theorem zyx322e : zrunw zprog2 (zovW []) 100000 zcut0 3 420 kX8_passes (zkinL zyx322q) 0 (zargs 0 zyx322a, [], (zyh406.1, zyh406.2.1, 0), 0, 0) = true := zall_ok zyg16_ok (k := 5) (a := zbzyx322e) rfl
theorem zyx322 {l : Launch} {D : va_G} {tys : List (ClassId × FieldType)} {o : zO} {z : Nat} (E : zEnv tys) : zKnW l D vwCl tys o z (zXX o z) zTs zprog2 zyx322d :=
  zkn_ml E (fun g => fun _ h => absurd h List.not_mem_nil) (show zget zprog2 263 = some mX8_passes from rfl) rfl (by decide) (by decide) (by decide) (by decide) zyx322e
theorem zyx323e : zrunw zprog2 (zovW []) 100000 zcut0 3 420 kX8_passes (zkinL zyx323q) 0 (zargs 0 zyx323a, [], (zyh409.1, zyh409.2.1, 0), 0, 0) = true := zall_ok zyg16_ok (k := 6) (a := zbzyx323e) rfl
theorem zyx323 {l : Launch} {D : va_G} {tys : List (ClassId × FieldType)} {o : zO} {z : Nat} (E : zEnv tys) : zKnW l D vwCl tys o z (zXX o z) zTs zprog2 zyx323d :=
  zkn_ml E (fun g => fun _ h => absurd h List.not_mem_nil) (show zget zprog2 263 = some mX8_passes from rfl) rfl (by decide) (by decide) (by decide) (by decide) zyx323e
theorem zyx324e : zrunw zprog2 (zovW []) 100000 zcut0 3 420 kX8_passes (zkinL zyx324q) 0 (zargs 0 zyx324a, [], (zyh412.1, zyh412.2.1, 0), 0, 0) = true := zall_ok zyg16_ok (k := 7) (a := zbzyx324e) rfl
theorem zyx324 {l : Launch} {D : va_G} {tys : List (ClassId × FieldType)} {o : zO} {z : Nat} (E : zEnv tys) : zKnW l D vwCl tys o z (zXX o z) zTs zprog2 zyx324d :=
  zkn_ml E (fun g => fun _ h => absurd h List.not_mem_nil) (show zget zprog2 263 = some mX8_passes from rfl) rfl (by decide) (by decide) (by decide) (by decide) zyx324e
theorem zyx325e : zrunw zprog2 (zovW []) 100000 zcut0 3 420 kX8_passes (zkinL zyx325q) 0 (zargs 0 zyx325a, [], (zyh415.1, zyh415.2.1, 0), 0, 0) = true := zall_ok zyg16_ok (k := 8) (a := zbzyx325e) rfl
theorem zyx325 {l : Launch} {D : va_G} {tys : List (ClassId × FieldType)} {o : zO} {z : Nat} (E : zEnv tys) : zKnW l D vwCl tys o z (zXX o z) zTs zprog2 zyx325d :=
  zkn_ml E (fun g => fun _ h => absurd h List.not_mem_nil) (show zget zprog2 263 = some mX8_passes from rfl) rfl (by decide) (by decide) (by decide) (by decide) zyx325e
theorem zyx326e : zrunw zprog2 (zovW []) 100000 zcut0 3 420 kX8_passes (zkinL zyx326q) 0 (zargs 0 zyx326a, [], (zyh418.1, zyh418.2.1, 0), 0, 0) = true := zall_ok zyg16_ok (k := 9) (a := zbzyx326e) rfl
theorem zyx326 {l : Launch} {D : va_G} {tys : List (ClassId × FieldType)} {o : zO} {z : Nat} (E : zEnv tys) : zKnW l D vwCl tys o z (zXX o z) zTs zprog2 zyx326d :=
  zkn_ml E (fun g => fun _ h => absurd h List.not_mem_nil) (show zget zprog2 263 = some mX8_passes from rfl) rfl (by decide) (by decide) (by decide) (by decide) zyx326e
theorem zyx327e : zrunw zprog2 (zovW []) 100000 zcut0 3 420 kX8_passes (zkinL zyx327q) 0 (zargs 0 zyx327a, [], (zyh421.1, zyh421.2.1, 0), 0, 0) = true := zall_ok zyg16_ok (k := 10) (a := zbzyx327e) rfl
theorem zyx327 {l : Launch} {D : va_G} {tys : List (ClassId × FieldType)} {o : zO} {z : Nat} (E : zEnv tys) : zKnW l D vwCl tys o z (zXX o z) zTs zprog2 zyx327d :=
  zkn_ml E (fun g => fun _ h => absurd h List.not_mem_nil) (show zget zprog2 263 = some mX8_passes from rfl) rfl (by decide) (by decide) (by decide) (by decide) zyx327e
theorem zyx328e : zrunw zprog2 (zovW []) 100000 zcut0 3 420 kX8_passes (zkinL zyx328q) 0 (zargs 0 zyx328a, [], (zyh424.1, zyh424.2.1, 0), 0, 0) = true := zall_ok zyg16_ok (k := 11) (a := zbzyx328e) rfl
theorem zyx328 {l : Launch} {D : va_G} {tys : List (ClassId × FieldType)} {o : zO} {z : Nat} (E : zEnv tys) : zKnW l D vwCl tys o z (zXX o z) zTs zprog2 zyx328d :=
  zkn_ml E (fun g => fun _ h => absurd h List.not_mem_nil) (show zget zprog2 263 = some mX8_passes from rfl) rfl (by decide) (by decide) (by decide) (by decide) zyx328e
theorem zyx329e : zrunw zprog2 (zovW []) 100000 zcut0 3 420 kX8_passes (zkinL zyx329q) 0 (zargs 0 zyx329a, [], (zyh427.1, zyh427.2.1, 0), 0, 0) = true := zall_ok zyg16_ok (k := 12) (a := zbzyx329e) rfl
theorem zyx329 {l : Launch} {D : va_G} {tys : List (ClassId × FieldType)} {o : zO} {z : Nat} (E : zEnv tys) : zKnW l D vwCl tys o z (zXX o z) zTs zprog2 zyx329d :=
  zkn_ml E (fun g => fun _ h => absurd h List.not_mem_nil) (show zget zprog2 263 = some mX8_passes from rfl) rfl (by decide) (by decide) (by decide) (by decide) zyx329e
theorem zyx330e : zrunw zprog2 (zovW []) 100000 zcut0 3 420 kX8_passes (zkinL zyx330q) 0 (zargs 0 zyx330a, [], (zyh430.1, zyh430.2.1, 0), 0, 0) = true := zall_ok zyg16_ok (k := 13) (a := zbzyx330e) rfl
theorem zyx330 {l : Launch} {D : va_G} {tys : List (ClassId × FieldType)} {o : zO} {z : Nat} (E : zEnv tys) : zKnW l D vwCl tys o z (zXX o z) zTs zprog2 zyx330d :=
  zkn_ml E (fun g => fun _ h => absurd h List.not_mem_nil) (show zget zprog2 263 = some mX8_passes from rfl) rfl (by decide) (by decide) (by decide) (by decide) zyx330e
theorem zyx331e : zrunw zprog2 (zovW []) 100000 zcut0 3 420 kX8_passes (zkinL zyx331q) 0 (zargs 0 zyx331a, [], (zyh433.1, zyh433.2.1, 0), 0, 0) = true := zall_ok zyg16_ok (k := 14) (a := zbzyx331e) rfl
theorem zyx331 {l : Launch} {D : va_G} {tys : List (ClassId × FieldType)} {o : zO} {z : Nat} (E : zEnv tys) : zKnW l D vwCl tys o z (zXX o z) zTs zprog2 zyx331d :=
  zkn_ml E (fun g => fun _ h => absurd h List.not_mem_nil) (show zget zprog2 263 = some mX8_passes from rfl) rfl (by decide) (by decide) (by decide) (by decide) zyx331e
theorem zyx332e : zrunw zprog2 (zovW []) 100000 zcut0 3 420 kX8_passes (zkinL zyx332q) 0 (zargs 0 zyx332a, [], (zyh436.1, zyh436.2.1, 0), 0, 0) = true := zall_ok zyg16_ok (k := 15) (a := zbzyx332e) rfl
theorem zyx332 {l : Launch} {D : va_G} {tys : List (ClassId × FieldType)} {o : zO} {z : Nat} (E : zEnv tys) : zKnW l D vwCl tys o z (zXX o z) zTs zprog2 zyx332d :=
  zkn_ml E (fun g => fun _ h => absurd h List.not_mem_nil) (show zget zprog2 263 = some mX8_passes from rfl) rfl (by decide) (by decide) (by decide) (by decide) zyx332e
theorem zyx333e : zrunw zprog2 (zovW []) 100000 zcut0 3 420 kX8_passes (zkinL zyx333q) 0 (zargs 0 zyx333a, [], (zyh439.1, zyh439.2.1, 0), 0, 0) = true := zall_ok zyg16_ok (k := 16) (a := zbzyx333e) rfl
theorem zyx333 {l : Launch} {D : va_G} {tys : List (ClassId × FieldType)} {o : zO} {z : Nat} (E : zEnv tys) : zKnW l D vwCl tys o z (zXX o z) zTs zprog2 zyx333d :=
  zkn_ml E (fun g => fun _ h => absurd h List.not_mem_nil) (show zget zprog2 263 = some mX8_passes from rfl) rfl (by decide) (by decide) (by decide) (by decide) zyx333e
theorem zyx334e : zrunw zprog2 (zovW []) 100000 zcut0 3 420 kX8_passes (zkinL zyx334q) 0 (zargs 0 zyx334a, [], (zyh442.1, zyh442.2.1, 0), 0, 0) = true := zall_ok zyg16_ok (k := 17) (a := zbzyx334e) rfl
theorem zyx334 {l : Launch} {D : va_G} {tys : List (ClassId × FieldType)} {o : zO} {z : Nat} (E : zEnv tys) : zKnW l D vwCl tys o z (zXX o z) zTs zprog2 zyx334d :=
  zkn_ml E (fun g => fun _ h => absurd h List.not_mem_nil) (show zget zprog2 263 = some mX8_passes from rfl) rfl (by decide) (by decide) (by decide) (by decide) zyx334e
theorem zyx335e : zrunw zprog2 (zovW []) 100000 zcut0 3 420 kX8_passes (zkinL zyx335q) 0 (zargs 0 zyx335a, [], (zyh445.1, zyh445.2.1, 0), 0, 0) = true := zall_ok zyg16_ok (k := 18) (a := zbzyx335e) rfl
theorem zyx335 {l : Launch} {D : va_G} {tys : List (ClassId × FieldType)} {o : zO} {z : Nat} (E : zEnv tys) : zKnW l D vwCl tys o z (zXX o z) zTs zprog2 zyx335d :=
  zkn_ml E (fun g => fun _ h => absurd h List.not_mem_nil) (show zget zprog2 263 = some mX8_passes from rfl) rfl (by decide) (by decide) (by decide) (by decide) zyx335e
theorem zyx336e : zrunw zprog2 (zovW []) 100000 zcut0 3 420 kX8_passes (zkinL zyx336q) 0 (zargs 0 zyx336a, [], (zyh448.1, zyh448.2.1, 0), 0, 0) = true := zall_ok zyg16_ok (k := 19) (a := zbzyx336e) rfl
theorem zyx336 {l : Launch} {D : va_G} {tys : List (ClassId × FieldType)} {o : zO} {z : Nat} (E : zEnv tys) : zKnW l D vwCl tys o z (zXX o z) zTs zprog2 zyx336d :=
  zkn_ml E (fun g => fun _ h => absurd h List.not_mem_nil) (show zget zprog2 263 = some mX8_passes from rfl) rfl (by decide) (by decide) (by decide) (by decide) zyx336e
theorem zyx337e : zrunw zprog2 (zovW []) 100000 zcut0 3 420 kX8_passes (zkinL zyx337q) 0 (zargs 0 zyx337a, [], (zyh451.1, zyh451.2.1, 0), 0, 0) = true := zall_ok zyg16_ok (k := 20) (a := zbzyx337e) rfl
theorem zyx337 {l : Launch} {D : va_G} {tys : List (ClassId × FieldType)} {o : zO} {z : Nat} (E : zEnv tys) : zKnW l D vwCl tys o z (zXX o z) zTs zprog2 zyx337d :=
  zkn_ml E (fun g => fun _ h => absurd h List.not_mem_nil) (show zget zprog2 263 = some mX8_passes from rfl) rfl (by decide) (by decide) (by decide) (by decide) zyx337e
theorem zyx338e : zrunw zprog2 (zovW []) 100000 zcut0 3 420 kX8_passes (zkinL zyx338q) 0 (zargs 0 zyx338a, [], (zyh454.1, zyh454.2.1, 0), 0, 0) = true := zall_ok zyg16_ok (k := 21) (a := zbzyx338e) rfl
theorem zyx338 {l : Launch} {D : va_G} {tys : List (ClassId × FieldType)} {o : zO} {z : Nat} (E : zEnv tys) : zKnW l D vwCl tys o z (zXX o z) zTs zprog2 zyx338d :=
  zkn_ml E (fun g => fun _ h => absurd h List.not_mem_nil) (show zget zprog2 263 = some mX8_passes from rfl) rfl (by decide) (by decide) (by decide) (by decide) zyx338e
theorem zyx339e : zrunw zprog2 (zovW []) 100000 zcut0 3 420 kX8_passes (zkinL zyx339q) 0 (zargs 0 zyx339a, [], (zyh457.1, zyh457.2.1, 0), 0, 0) = true := zall_ok zyg16_ok (k := 22) (a := zbzyx339e) rfl
theorem zyx339 {l : Launch} {D : va_G} {tys : List (ClassId × FieldType)} {o : zO} {z : Nat} (E : zEnv tys) : zKnW l D vwCl tys o z (zXX o z) zTs zprog2 zyx339d :=
  zkn_ml E (fun g => fun _ h => absurd h List.not_mem_nil) (show zget zprog2 263 = some mX8_passes from rfl) rfl (by decide) (by decide) (by decide) (by decide) zyx339e
theorem zyx340e : zrunw zprog2 (zovW []) 100000 zcut0 3 420 kX8_passes (zkinL zyx340q) 0 (zargs 0 zyx340a, [], (zyh460.1, zyh460.2.1, 0), 0, 0) = true := zall_ok zyg16_ok (k := 23) (a := zbzyx340e) rfl
theorem zyx340 {l : Launch} {D : va_G} {tys : List (ClassId × FieldType)} {o : zO} {z : Nat} (E : zEnv tys) : zKnW l D vwCl tys o z (zXX o z) zTs zprog2 zyx340d :=
  zkn_ml E (fun g => fun _ h => absurd h List.not_mem_nil) (show zget zprog2 263 = some mX8_passes from rfl) rfl (by decide) (by decide) (by decide) (by decide) zyx340e
theorem zyx341e : zrunw zprog2 (zovW [zyx340d]) 100000 (zcutW [] none ((zyx341r, zyh461), 4, 540) []) 4 540 k2X8_thing (zkin zyx341r zyh461) 0 (zargs 0 zyx341a, [], (zyh460.1, zyh460.2.1, 0), 0, 0) = true := zall_ok zyg16_ok (k := 24) (a := zbzyx341e) rfl
theorem zyx341 {l : Launch} {D : va_G} {tys : List (ClassId × FieldType)} {o : zO} {z : Nat} (E : zEnv tys) : zKnW l D vwCl tys o z (zXX o z) zTs zprog2 zyx341d :=
  zkn_mk E (fun g => List.forall_mem_cons.mpr ⟨zyx340 (o := zwith o g) E, fun _ h => absurd h List.not_mem_nil⟩) (show zget zprog2 292 = some m2X8_thing from rfl) rfl (by decide) (by decide) (by decide) (by decide) (G := []) (fun _ h => absurd h List.not_mem_nil) zyx341e
theorem zyx342c : zchkX [(94, 15)] zprog2 (zovW [zyx341d]) 100000 k2X8_product [] [zyx342q] [zyx342q] = true := zall_ok zyg16_ok (k := 25) (a := zbzyx342c) rfl
theorem zyx342k {l : Launch} {D : va_G} {tys : List (ClassId × FieldType)} {o : zO} {z : Nat} (E : zEnv tys) : zPtOk l D vwCl tys o z (zXX o z) zTs m2X8_product zyx342q := zkn_pt E (fun g => List.forall_mem_cons.mpr ⟨zyx341 (o := zwith o g) E, fun _ h => absurd h List.not_mem_nil⟩) (show zget zprog2 265 = some m2X8_product from rfl) (fun _ h => absurd h List.not_mem_nil) zyx342c _ List.mem_cons_self
theorem zyx342e : zrunw zprog2 (zovW [zyx341d]) 100000 (zcutW [(94, 15)] none ((zyx342r, zyh461), 5, 660) [zyx342q]) 5 660 k2X8_product (zkin zyx342r zyh461) 0 (zargs 0 zyx342a, [], (zyh460.1, zyh460.2.1, 0), 0, 0) = true := zall_ok zyg16_ok (k := 26) (a := zbzyx342e) rfl
theorem zyx342 {l : Launch} {D : va_G} {tys : List (ClassId × FieldType)} {o : zO} {z : Nat} (E : zEnv tys) : zKnW l D vwCl tys o z (zXX o z) zTs zprog2 zyx342d :=
  zkn_mk E (fun g => List.forall_mem_cons.mpr ⟨zyx341 (o := zwith o g) E, fun _ h => absurd h List.not_mem_nil⟩) (show zget zprog2 265 = some m2X8_product from rfl) rfl (by decide) (by decide) (by decide) (by decide) (G := [zyx342q]) (List.forall_mem_cons.mpr ⟨zyx342k E, fun _ h => absurd h List.not_mem_nil⟩) zyx342e
theorem zyx343c : zchkX [(94, 15)] zprog2 (zovW [zyx342d]) 100000 kX8_sum [] [zyx343q] [zyx343q] = true := zall_ok zyg16_ok (k := 27) (a := zbzyx343c) rfl
theorem zyx343k {l : Launch} {D : va_G} {tys : List (ClassId × FieldType)} {o : zO} {z : Nat} (E : zEnv tys) : zPtOk l D vwCl tys o z (zXX o z) zTs mX8_sum zyx343q := zkn_pt E (fun g => List.forall_mem_cons.mpr ⟨zyx342 (o := zwith o g) E, fun _ h => absurd h List.not_mem_nil⟩) (show zget zprog2 284 = some mX8_sum from rfl) (fun _ h => absurd h List.not_mem_nil) zyx343c _ List.mem_cons_self
theorem zyx343e : zrunw zprog2 (zovW [zyx342d]) 100000 (zcutW [(94, 15)] none ((zyx343r, zyh461), 6, 780) [zyx343q]) 6 780 kX8_sum (zkin zyx343r zyh461) 0 (zargs 0 zyx343a, [], (zyh460.1, zyh460.2.1, 0), 0, 0) = true := zall_ok zyg16_ok (k := 28) (a := zbzyx343e) rfl
theorem zyx343 {l : Launch} {D : va_G} {tys : List (ClassId × FieldType)} {o : zO} {z : Nat} (E : zEnv tys) : zKnW l D vwCl tys o z (zXX o z) zTs zprog2 zyx343d :=
  zkn_mk E (fun g => List.forall_mem_cons.mpr ⟨zyx342 (o := zwith o g) E, fun _ h => absurd h List.not_mem_nil⟩) (show zget zprog2 284 = some mX8_sum from rfl) rfl (by decide) (by decide) (by decide) (by decide) (G := [zyx343q]) (List.forall_mem_cons.mpr ⟨zyx343k E, fun _ h => absurd h List.not_mem_nil⟩) zyx343e
theorem zyx344e : zrunw zprog2 (zovW [zyx343d, zyx340d]) 100000 (zcutW [] none ((zyx344r, zyh461), 7, 900) []) 7 900 kX8_heldBy (zkin zyx344r zyh461) 0 (zargs 0 zyx344a, [], (zyh460.1, zyh460.2.1, 0), 0, 0) = true := zall_ok zyg16_ok (k := 29) (a := zbzyx344e) rfl
theorem zyx344 {l : Launch} {D : va_G} {tys : List (ClassId × FieldType)} {o : zO} {z : Nat} (E : zEnv tys) : zKnW l D vwCl tys o z (zXX o z) zTs zprog2 zyx344d :=
  zkn_mk E (fun g => List.forall_mem_cons.mpr ⟨zyx343 (o := zwith o g) E, List.forall_mem_cons.mpr ⟨zyx340 (o := zwith o g) E, fun _ h => absurd h List.not_mem_nil⟩⟩) (show zget zprog2 229 = some mX8_heldBy from rfl) rfl (by decide) (by decide) (by decide) (by decide) (G := []) (fun _ h => absurd h List.not_mem_nil) zyx344e
theorem zyx345e : zrunw zprog2 (zovW []) 100000 zcut0 4 480 kX8_oneOf (zkinL zyx345q) 0 (zargs 0 zyx345a, [], (zyh457.1, zyh457.2.1, 0), 0, 0) = true := zall_ok zyg16_ok (k := 30) (a := zbzyx345e) rfl
theorem zyx345 {l : Launch} {D : va_G} {tys : List (ClassId × FieldType)} {o : zO} {z : Nat} (E : zEnv tys) : zKnW l D vwCl tys o z (zXX o z) zTs zprog2 zyx345d :=
  zkn_ml E (fun g => fun _ h => absurd h List.not_mem_nil) (show zget zprog2 260 = some mX8_oneOf from rfl) rfl (by decide) (by decide) (by decide) (by decide) zyx345e
theorem zyx346c0 : zchkX [] zprog2 (zovW [zyx345d]) 100000 kX8_number [] [zyx346q0] [zyx346q0] = true := zall_ok zyg16_ok (k := 31) (a := zbzyx346c0) rfl
theorem zyx346_k0 {l : Launch} {D : va_G} {tys : List (ClassId × FieldType)} {o : zO} {z : Nat} (E : zEnv tys) : zPtOk l D vwCl tys o z (zXX o z) zTs mX8_number zyx346q0 := zkn_pt E (fun g => List.forall_mem_cons.mpr ⟨zyx345 (o := zwith o g) E, fun _ h => absurd h List.not_mem_nil⟩) (show zget zprog2 259 = some mX8_number from rfl) (fun _ h => absurd h List.not_mem_nil) zyx346c0 _ (List.mem_of_getElem? (i := 0) rfl)
theorem zyx346e : zrunw zprog2 (zovW [zyx345d]) 100000 (zcutW [] none ((zyx346r, zyh458), 5, 600) [zyx346q0]) 5 600 kX8_number (zkin zyx346r zyh458) 0 (zargs 0 zyx346a, [], (zyh457.1, zyh457.2.1, 0), 0, 0) = true := zall_ok zyg16_ok (k := 32) (a := zbzyx346e) rfl
theorem zyx346 {l : Launch} {D : va_G} {tys : List (ClassId × FieldType)} {o : zO} {z : Nat} (E : zEnv tys) : zKnW l D vwCl tys o z (zXX o z) zTs zprog2 zyx346d :=
  zkn_mk E (fun g => List.forall_mem_cons.mpr ⟨zyx345 (o := zwith o g) E, fun _ h => absurd h List.not_mem_nil⟩) (show zget zprog2 259 = some mX8_number from rfl) rfl (by decide) (by decide) (by decide) (by decide) (G := [zyx346q0]) (List.forall_mem_cons.mpr ⟨zyx346_k0 E, fun _ h => absurd h List.not_mem_nil⟩) zyx346e
theorem zyx347e : zrunw zprog2 (zovW [zyx344d, zyx341d, zyx340d, zyx346d, zyx339d]) 100000 (zcutW [] none ((zyx347r, zyh458), 8, 1020) []) 8 1020 k2X8_thing (zkin zyx347r zyh458) 0 (zargs 0 zyx347a, [], (zyh457.1, zyh457.2.1, 0), 0, 0) = true := zall_ok zyg16_ok (k := 33) (a := zbzyx347e) rfl
theorem zyx347 {l : Launch} {D : va_G} {tys : List (ClassId × FieldType)} {o : zO} {z : Nat} (E : zEnv tys) : zKnW l D vwCl tys o z (zXX o z) zTs zprog2 zyx347d :=
  zkn_mk E (fun g => List.forall_mem_cons.mpr ⟨zyx344 (o := zwith o g) E, List.forall_mem_cons.mpr ⟨zyx341 (o := zwith o g) E, List.forall_mem_cons.mpr ⟨zyx340 (o := zwith o g) E, List.forall_mem_cons.mpr ⟨zyx346 (o := zwith o g) E, List.forall_mem_cons.mpr ⟨zyx339 (o := zwith o g) E, fun _ h => absurd h List.not_mem_nil⟩⟩⟩⟩⟩) (show zget zprog2 292 = some m2X8_thing from rfl) rfl (by decide) (by decide) (by decide) (by decide) (G := []) (fun _ h => absurd h List.not_mem_nil) zyx347e
theorem zyx348c : zchkX [(94, 15)] zprog2 (zovW [zyx341d, zyx347d]) 100000 k2X8_product [zyx342q] [zyx348q] [zyx348q] = true := zall_ok zyg16_ok (k := 34) (a := zbzyx348c) rfl
theorem zyx348k {l : Launch} {D : va_G} {tys : List (ClassId × FieldType)} {o : zO} {z : Nat} (E : zEnv tys) : zPtOk l D vwCl tys o z (zXX o z) zTs m2X8_product zyx348q := zkn_pt E (fun g => List.forall_mem_cons.mpr ⟨zyx341 (o := zwith o g) E, List.forall_mem_cons.mpr ⟨zyx347 (o := zwith o g) E, fun _ h => absurd h List.not_mem_nil⟩⟩) (show zget zprog2 265 = some m2X8_product from rfl) (List.forall_mem_cons.mpr ⟨zyx342k E, fun _ h => absurd h List.not_mem_nil⟩) zyx348c _ List.mem_cons_self
theorem zyx348e : zrunw zprog2 (zovW [zyx341d, zyx347d]) 100000 (zcutW [(94, 15)] none ((zyx348r, zyh458), 9, 1140) [zyx348q, zyx342q]) 9 1140 k2X8_product (zkin zyx348r zyh458) 0 (zargs 0 zyx348a, [], (zyh457.1, zyh457.2.1, 0), 0, 0) = true := zall_ok zyg16_ok (k := 35) (a := zbzyx348e) rfl
theorem zyx348 {l : Launch} {D : va_G} {tys : List (ClassId × FieldType)} {o : zO} {z : Nat} (E : zEnv tys) : zKnW l D vwCl tys o z (zXX o z) zTs zprog2 zyx348d :=
  zkn_mk E (fun g => List.forall_mem_cons.mpr ⟨zyx341 (o := zwith o g) E, List.forall_mem_cons.mpr ⟨zyx347 (o := zwith o g) E, fun _ h => absurd h List.not_mem_nil⟩⟩) (show zget zprog2 265 = some m2X8_product from rfl) rfl (by decide) (by decide) (by decide) (by decide) (G := [zyx348q, zyx342q]) (List.forall_mem_cons.mpr ⟨zyx348k E, List.forall_mem_cons.mpr ⟨zyx342k E, fun _ h => absurd h List.not_mem_nil⟩⟩) zyx348e
theorem zyx349c : zchkX [(94, 15)] zprog2 (zovW [zyx342d, zyx348d]) 100000 kX8_sum [zyx343q] [zyx349q] [zyx349q] = true := zall_ok zyg16_ok (k := 36) (a := zbzyx349c) rfl
theorem zyx349k {l : Launch} {D : va_G} {tys : List (ClassId × FieldType)} {o : zO} {z : Nat} (E : zEnv tys) : zPtOk l D vwCl tys o z (zXX o z) zTs mX8_sum zyx349q := zkn_pt E (fun g => List.forall_mem_cons.mpr ⟨zyx342 (o := zwith o g) E, List.forall_mem_cons.mpr ⟨zyx348 (o := zwith o g) E, fun _ h => absurd h List.not_mem_nil⟩⟩) (show zget zprog2 284 = some mX8_sum from rfl) (List.forall_mem_cons.mpr ⟨zyx343k E, fun _ h => absurd h List.not_mem_nil⟩) zyx349c _ List.mem_cons_self
theorem zyx349e : zrunw zprog2 (zovW [zyx342d, zyx348d]) 100000 (zcutW [(94, 15)] none ((zyx349r, zyh458), 10, 1260) [zyx349q, zyx343q]) 10 1260 kX8_sum (zkin zyx349r zyh458) 0 (zargs 0 zyx349a, [], (zyh457.1, zyh457.2.1, 0), 0, 0) = true := zall_ok zyg16_ok (k := 37) (a := zbzyx349e) rfl
theorem zyx349 {l : Launch} {D : va_G} {tys : List (ClassId × FieldType)} {o : zO} {z : Nat} (E : zEnv tys) : zKnW l D vwCl tys o z (zXX o z) zTs zprog2 zyx349d :=
  zkn_mk E (fun g => List.forall_mem_cons.mpr ⟨zyx342 (o := zwith o g) E, List.forall_mem_cons.mpr ⟨zyx348 (o := zwith o g) E, fun _ h => absurd h List.not_mem_nil⟩⟩) (show zget zprog2 284 = some mX8_sum from rfl) rfl (by decide) (by decide) (by decide) (by decide) (G := [zyx349q, zyx343q]) (List.forall_mem_cons.mpr ⟨zyx349k E, List.forall_mem_cons.mpr ⟨zyx343k E, fun _ h => absurd h List.not_mem_nil⟩⟩) zyx349e
theorem zyx350e : zrunw zprog2 (zovW [zyx343d, zyx349d, zyx339d]) 100000 (zcutW [] none ((zyx350r, zyh458), 11, 1380) []) 11 1380 kX8_heldBy (zkin zyx350r zyh458) 0 (zargs 0 zyx350a, [], (zyh457.1, zyh457.2.1, 0), 0, 0) = true := zall_ok zyg16_ok (k := 38) (a := zbzyx350e) rfl
theorem zyx350 {l : Launch} {D : va_G} {tys : List (ClassId × FieldType)} {o : zO} {z : Nat} (E : zEnv tys) : zKnW l D vwCl tys o z (zXX o z) zTs zprog2 zyx350d :=
  zkn_mk E (fun g => List.forall_mem_cons.mpr ⟨zyx343 (o := zwith o g) E, List.forall_mem_cons.mpr ⟨zyx349 (o := zwith o g) E, List.forall_mem_cons.mpr ⟨zyx339 (o := zwith o g) E, fun _ h => absurd h List.not_mem_nil⟩⟩⟩) (show zget zprog2 229 = some mX8_heldBy from rfl) rfl (by decide) (by decide) (by decide) (by decide) (G := []) (fun _ h => absurd h List.not_mem_nil) zyx350e
theorem zyx351e : zrunw zprog2 (zovW []) 100000 zcut0 4 480 kX8_oneOf (zkinL zyx351q) 0 (zargs 0 zyx351a, [], (zyh454.1, zyh454.2.1, 0), 0, 0) = true := zall_ok zyg16_ok (k := 39) (a := zbzyx351e) rfl
theorem zyx351 {l : Launch} {D : va_G} {tys : List (ClassId × FieldType)} {o : zO} {z : Nat} (E : zEnv tys) : zKnW l D vwCl tys o z (zXX o z) zTs zprog2 zyx351d :=
  zkn_ml E (fun g => fun _ h => absurd h List.not_mem_nil) (show zget zprog2 260 = some mX8_oneOf from rfl) rfl (by decide) (by decide) (by decide) (by decide) zyx351e
theorem zyx352c0 : zchkX [] zprog2 (zovW [zyx351d]) 100000 kX8_number [] [zyx352q0] [zyx352q0] = true := zall_ok zyg16_ok (k := 40) (a := zbzyx352c0) rfl
theorem zyx352_k0 {l : Launch} {D : va_G} {tys : List (ClassId × FieldType)} {o : zO} {z : Nat} (E : zEnv tys) : zPtOk l D vwCl tys o z (zXX o z) zTs mX8_number zyx352q0 := zkn_pt E (fun g => List.forall_mem_cons.mpr ⟨zyx351 (o := zwith o g) E, fun _ h => absurd h List.not_mem_nil⟩) (show zget zprog2 259 = some mX8_number from rfl) (fun _ h => absurd h List.not_mem_nil) zyx352c0 _ (List.mem_of_getElem? (i := 0) rfl)
theorem zyx352e : zrunw zprog2 (zovW [zyx351d]) 100000 (zcutW [] none ((zyx352r, zyh455), 5, 600) [zyx352q0]) 5 600 kX8_number (zkin zyx352r zyh455) 0 (zargs 0 zyx352a, [], (zyh454.1, zyh454.2.1, 0), 0, 0) = true := zall_ok zyg16_ok (k := 41) (a := zbzyx352e) rfl
theorem zyx352 {l : Launch} {D : va_G} {tys : List (ClassId × FieldType)} {o : zO} {z : Nat} (E : zEnv tys) : zKnW l D vwCl tys o z (zXX o z) zTs zprog2 zyx352d :=
  zkn_mk E (fun g => List.forall_mem_cons.mpr ⟨zyx351 (o := zwith o g) E, fun _ h => absurd h List.not_mem_nil⟩) (show zget zprog2 259 = some mX8_number from rfl) rfl (by decide) (by decide) (by decide) (by decide) (G := [zyx352q0]) (List.forall_mem_cons.mpr ⟨zyx352_k0 E, fun _ h => absurd h List.not_mem_nil⟩) zyx352e
theorem zyx353e : zrunw zprog2 (zovW [zyx350d, zyx347d, zyx339d, zyx352d, zyx338d]) 100000 (zcutW [] none ((zyx353r, zyh455), 12, 1500) []) 12 1500 k2X8_thing (zkin zyx353r zyh455) 0 (zargs 0 zyx353a, [], (zyh454.1, zyh454.2.1, 0), 0, 0) = true := zall_ok zyg16_ok (k := 42) (a := zbzyx353e) rfl
theorem zyx353 {l : Launch} {D : va_G} {tys : List (ClassId × FieldType)} {o : zO} {z : Nat} (E : zEnv tys) : zKnW l D vwCl tys o z (zXX o z) zTs zprog2 zyx353d :=
  zkn_mk E (fun g => List.forall_mem_cons.mpr ⟨zyx350 (o := zwith o g) E, List.forall_mem_cons.mpr ⟨zyx347 (o := zwith o g) E, List.forall_mem_cons.mpr ⟨zyx339 (o := zwith o g) E, List.forall_mem_cons.mpr ⟨zyx352 (o := zwith o g) E, List.forall_mem_cons.mpr ⟨zyx338 (o := zwith o g) E, fun _ h => absurd h List.not_mem_nil⟩⟩⟩⟩⟩) (show zget zprog2 292 = some m2X8_thing from rfl) rfl (by decide) (by decide) (by decide) (by decide) (G := []) (fun _ h => absurd h List.not_mem_nil) zyx353e
theorem zyx354c : zchkX [(94, 15)] zprog2 (zovW [zyx347d, zyx353d]) 100000 k2X8_product [zyx348q, zyx342q] [zyx354q] [zyx354q] = true := zall_ok zyg16_ok (k := 43) (a := zbzyx354c) rfl
theorem zyx354k {l : Launch} {D : va_G} {tys : List (ClassId × FieldType)} {o : zO} {z : Nat} (E : zEnv tys) : zPtOk l D vwCl tys o z (zXX o z) zTs m2X8_product zyx354q := zkn_pt E (fun g => List.forall_mem_cons.mpr ⟨zyx347 (o := zwith o g) E, List.forall_mem_cons.mpr ⟨zyx353 (o := zwith o g) E, fun _ h => absurd h List.not_mem_nil⟩⟩) (show zget zprog2 265 = some m2X8_product from rfl) (List.forall_mem_cons.mpr ⟨zyx348k E, List.forall_mem_cons.mpr ⟨zyx342k E, fun _ h => absurd h List.not_mem_nil⟩⟩) zyx354c _ List.mem_cons_self
theorem zyx354e : zrunw zprog2 (zovW [zyx347d, zyx353d]) 100000 (zcutW [(94, 15)] none ((zyx354r, zyh455), 13, 1620) [zyx354q, zyx348q, zyx342q]) 13 1620 k2X8_product (zkin zyx354r zyh455) 0 (zargs 0 zyx354a, [], (zyh454.1, zyh454.2.1, 0), 0, 0) = true := zall_ok zyg16_ok (k := 44) (a := zbzyx354e) rfl
theorem zyx354 {l : Launch} {D : va_G} {tys : List (ClassId × FieldType)} {o : zO} {z : Nat} (E : zEnv tys) : zKnW l D vwCl tys o z (zXX o z) zTs zprog2 zyx354d :=
  zkn_mk E (fun g => List.forall_mem_cons.mpr ⟨zyx347 (o := zwith o g) E, List.forall_mem_cons.mpr ⟨zyx353 (o := zwith o g) E, fun _ h => absurd h List.not_mem_nil⟩⟩) (show zget zprog2 265 = some m2X8_product from rfl) rfl (by decide) (by decide) (by decide) (by decide) (G := [zyx354q, zyx348q, zyx342q]) (List.forall_mem_cons.mpr ⟨zyx354k E, List.forall_mem_cons.mpr ⟨zyx348k E, List.forall_mem_cons.mpr ⟨zyx342k E, fun _ h => absurd h List.not_mem_nil⟩⟩⟩) zyx354e
theorem zyx355c : zchkX [(94, 15)] zprog2 (zovW [zyx348d, zyx354d]) 100000 kX8_sum [zyx349q, zyx343q] [zyx355q] [zyx355q] = true := zall_ok zyg16_ok (k := 45) (a := zbzyx355c) rfl
theorem zyx355k {l : Launch} {D : va_G} {tys : List (ClassId × FieldType)} {o : zO} {z : Nat} (E : zEnv tys) : zPtOk l D vwCl tys o z (zXX o z) zTs mX8_sum zyx355q := zkn_pt E (fun g => List.forall_mem_cons.mpr ⟨zyx348 (o := zwith o g) E, List.forall_mem_cons.mpr ⟨zyx354 (o := zwith o g) E, fun _ h => absurd h List.not_mem_nil⟩⟩) (show zget zprog2 284 = some mX8_sum from rfl) (List.forall_mem_cons.mpr ⟨zyx349k E, List.forall_mem_cons.mpr ⟨zyx343k E, fun _ h => absurd h List.not_mem_nil⟩⟩) zyx355c _ List.mem_cons_self
theorem zyx355e : zrunw zprog2 (zovW [zyx348d, zyx354d]) 100000 (zcutW [(94, 15)] none ((zyx355r, zyh455), 14, 1740) [zyx355q, zyx349q, zyx343q]) 14 1740 kX8_sum (zkin zyx355r zyh455) 0 (zargs 0 zyx355a, [], (zyh454.1, zyh454.2.1, 0), 0, 0) = true := zall_ok zyg16_ok (k := 46) (a := zbzyx355e) rfl
theorem zyx355 {l : Launch} {D : va_G} {tys : List (ClassId × FieldType)} {o : zO} {z : Nat} (E : zEnv tys) : zKnW l D vwCl tys o z (zXX o z) zTs zprog2 zyx355d :=
  zkn_mk E (fun g => List.forall_mem_cons.mpr ⟨zyx348 (o := zwith o g) E, List.forall_mem_cons.mpr ⟨zyx354 (o := zwith o g) E, fun _ h => absurd h List.not_mem_nil⟩⟩) (show zget zprog2 284 = some mX8_sum from rfl) rfl (by decide) (by decide) (by decide) (by decide) (G := [zyx355q, zyx349q, zyx343q]) (List.forall_mem_cons.mpr ⟨zyx355k E, List.forall_mem_cons.mpr ⟨zyx349k E, List.forall_mem_cons.mpr ⟨zyx343k E, fun _ h => absurd h List.not_mem_nil⟩⟩⟩) zyx355e
theorem zyx356e : zrunw zprog2 (zovW [zyx349d, zyx355d, zyx338d]) 100000 (zcutW [] none ((zyx356r, zyh455), 15, 1860) []) 15 1860 kX8_heldBy (zkin zyx356r zyh455) 0 (zargs 0 zyx356a, [], (zyh454.1, zyh454.2.1, 0), 0, 0) = true := zall_ok zyg16_ok (k := 47) (a := zbzyx356e) rfl
theorem zyx356 {l : Launch} {D : va_G} {tys : List (ClassId × FieldType)} {o : zO} {z : Nat} (E : zEnv tys) : zKnW l D vwCl tys o z (zXX o z) zTs zprog2 zyx356d :=
  zkn_mk E (fun g => List.forall_mem_cons.mpr ⟨zyx349 (o := zwith o g) E, List.forall_mem_cons.mpr ⟨zyx355 (o := zwith o g) E, List.forall_mem_cons.mpr ⟨zyx338 (o := zwith o g) E, fun _ h => absurd h List.not_mem_nil⟩⟩⟩) (show zget zprog2 229 = some mX8_heldBy from rfl) rfl (by decide) (by decide) (by decide) (by decide) (G := []) (fun _ h => absurd h List.not_mem_nil) zyx356e
theorem zyx357e : zrunw zprog2 (zovW []) 100000 zcut0 4 480 kX8_oneOf (zkinL zyx357q) 0 (zargs 0 zyx357a, [], (zyh451.1, zyh451.2.1, 0), 0, 0) = true := zall_ok zyg16_ok (k := 48) (a := zbzyx357e) rfl
theorem zyx357 {l : Launch} {D : va_G} {tys : List (ClassId × FieldType)} {o : zO} {z : Nat} (E : zEnv tys) : zKnW l D vwCl tys o z (zXX o z) zTs zprog2 zyx357d :=
  zkn_ml E (fun g => fun _ h => absurd h List.not_mem_nil) (show zget zprog2 260 = some mX8_oneOf from rfl) rfl (by decide) (by decide) (by decide) (by decide) zyx357e
theorem zyx358c0 : zchkX [] zprog2 (zovW [zyx357d]) 100000 kX8_number [] [zyx358q0] [zyx358q0] = true := zall_ok zyg16_ok (k := 49) (a := zbzyx358c0) rfl
theorem zyx358_k0 {l : Launch} {D : va_G} {tys : List (ClassId × FieldType)} {o : zO} {z : Nat} (E : zEnv tys) : zPtOk l D vwCl tys o z (zXX o z) zTs mX8_number zyx358q0 := zkn_pt E (fun g => List.forall_mem_cons.mpr ⟨zyx357 (o := zwith o g) E, fun _ h => absurd h List.not_mem_nil⟩) (show zget zprog2 259 = some mX8_number from rfl) (fun _ h => absurd h List.not_mem_nil) zyx358c0 _ (List.mem_of_getElem? (i := 0) rfl)
theorem zyx358e : zrunw zprog2 (zovW [zyx357d]) 100000 (zcutW [] none ((zyx358r, zyh452), 5, 600) [zyx358q0]) 5 600 kX8_number (zkin zyx358r zyh452) 0 (zargs 0 zyx358a, [], (zyh451.1, zyh451.2.1, 0), 0, 0) = true := zall_ok zyg16_ok (k := 50) (a := zbzyx358e) rfl
theorem zyx358 {l : Launch} {D : va_G} {tys : List (ClassId × FieldType)} {o : zO} {z : Nat} (E : zEnv tys) : zKnW l D vwCl tys o z (zXX o z) zTs zprog2 zyx358d :=
  zkn_mk E (fun g => List.forall_mem_cons.mpr ⟨zyx357 (o := zwith o g) E, fun _ h => absurd h List.not_mem_nil⟩) (show zget zprog2 259 = some mX8_number from rfl) rfl (by decide) (by decide) (by decide) (by decide) (G := [zyx358q0]) (List.forall_mem_cons.mpr ⟨zyx358_k0 E, fun _ h => absurd h List.not_mem_nil⟩) zyx358e
theorem zyx359e : zrunw zprog2 (zovW [zyx356d, zyx353d, zyx338d, zyx358d, zyx337d]) 100000 (zcutW [] none ((zyx359r, zyh452), 16, 1980) []) 16 1980 k2X8_thing (zkin zyx359r zyh452) 0 (zargs 0 zyx359a, [], (zyh451.1, zyh451.2.1, 0), 0, 0) = true := zall_ok zyg16_ok (k := 51) (a := zbzyx359e) rfl
theorem zyx359 {l : Launch} {D : va_G} {tys : List (ClassId × FieldType)} {o : zO} {z : Nat} (E : zEnv tys) : zKnW l D vwCl tys o z (zXX o z) zTs zprog2 zyx359d :=
  zkn_mk E (fun g => List.forall_mem_cons.mpr ⟨zyx356 (o := zwith o g) E, List.forall_mem_cons.mpr ⟨zyx353 (o := zwith o g) E, List.forall_mem_cons.mpr ⟨zyx338 (o := zwith o g) E, List.forall_mem_cons.mpr ⟨zyx358 (o := zwith o g) E, List.forall_mem_cons.mpr ⟨zyx337 (o := zwith o g) E, fun _ h => absurd h List.not_mem_nil⟩⟩⟩⟩⟩) (show zget zprog2 292 = some m2X8_thing from rfl) rfl (by decide) (by decide) (by decide) (by decide) (G := []) (fun _ h => absurd h List.not_mem_nil) zyx359e
theorem zyx360c : zchkX [(94, 15)] zprog2 (zovW [zyx353d, zyx359d]) 100000 k2X8_product [zyx354q, zyx348q, zyx342q] [zyx360q] [zyx360q] = true := zall_ok zyg16_ok (k := 52) (a := zbzyx360c) rfl
theorem zyx360k {l : Launch} {D : va_G} {tys : List (ClassId × FieldType)} {o : zO} {z : Nat} (E : zEnv tys) : zPtOk l D vwCl tys o z (zXX o z) zTs m2X8_product zyx360q := zkn_pt E (fun g => List.forall_mem_cons.mpr ⟨zyx353 (o := zwith o g) E, List.forall_mem_cons.mpr ⟨zyx359 (o := zwith o g) E, fun _ h => absurd h List.not_mem_nil⟩⟩) (show zget zprog2 265 = some m2X8_product from rfl) (List.forall_mem_cons.mpr ⟨zyx354k E, List.forall_mem_cons.mpr ⟨zyx348k E, List.forall_mem_cons.mpr ⟨zyx342k E, fun _ h => absurd h List.not_mem_nil⟩⟩⟩) zyx360c _ List.mem_cons_self
theorem zyx360e : zrunw zprog2 (zovW [zyx353d, zyx359d]) 100000 (zcutW [(94, 15)] none ((zyx360r, zyh452), 17, 2100) [zyx360q, zyx354q, zyx348q, zyx342q]) 17 2100 k2X8_product (zkin zyx360r zyh452) 0 (zargs 0 zyx360a, [], (zyh451.1, zyh451.2.1, 0), 0, 0) = true := zall_ok zyg16_ok (k := 53) (a := zbzyx360e) rfl
theorem zyx360 {l : Launch} {D : va_G} {tys : List (ClassId × FieldType)} {o : zO} {z : Nat} (E : zEnv tys) : zKnW l D vwCl tys o z (zXX o z) zTs zprog2 zyx360d :=
  zkn_mk E (fun g => List.forall_mem_cons.mpr ⟨zyx353 (o := zwith o g) E, List.forall_mem_cons.mpr ⟨zyx359 (o := zwith o g) E, fun _ h => absurd h List.not_mem_nil⟩⟩) (show zget zprog2 265 = some m2X8_product from rfl) rfl (by decide) (by decide) (by decide) (by decide) (G := [zyx360q, zyx354q, zyx348q, zyx342q]) (List.forall_mem_cons.mpr ⟨zyx360k E, List.forall_mem_cons.mpr ⟨zyx354k E, List.forall_mem_cons.mpr ⟨zyx348k E, List.forall_mem_cons.mpr ⟨zyx342k E, fun _ h => absurd h List.not_mem_nil⟩⟩⟩⟩) zyx360e
theorem zyx361c : zchkX [(94, 15)] zprog2 (zovW [zyx354d, zyx360d]) 100000 kX8_sum [zyx355q, zyx349q, zyx343q] [zyx361q] [zyx361q] = true := zall_ok zyg16_ok (k := 54) (a := zbzyx361c) rfl
theorem zyx361k {l : Launch} {D : va_G} {tys : List (ClassId × FieldType)} {o : zO} {z : Nat} (E : zEnv tys) : zPtOk l D vwCl tys o z (zXX o z) zTs mX8_sum zyx361q := zkn_pt E (fun g => List.forall_mem_cons.mpr ⟨zyx354 (o := zwith o g) E, List.forall_mem_cons.mpr ⟨zyx360 (o := zwith o g) E, fun _ h => absurd h List.not_mem_nil⟩⟩) (show zget zprog2 284 = some mX8_sum from rfl) (List.forall_mem_cons.mpr ⟨zyx355k E, List.forall_mem_cons.mpr ⟨zyx349k E, List.forall_mem_cons.mpr ⟨zyx343k E, fun _ h => absurd h List.not_mem_nil⟩⟩⟩) zyx361c _ List.mem_cons_self
theorem zyx361e : zrunw zprog2 (zovW [zyx354d, zyx360d]) 100000 (zcutW [(94, 15)] none ((zyx361r, zyh452), 18, 2220) [zyx361q, zyx355q, zyx349q, zyx343q]) 18 2220 kX8_sum (zkin zyx361r zyh452) 0 (zargs 0 zyx361a, [], (zyh451.1, zyh451.2.1, 0), 0, 0) = true := zall_ok zyg16_ok (k := 55) (a := zbzyx361e) rfl
theorem zyx361 {l : Launch} {D : va_G} {tys : List (ClassId × FieldType)} {o : zO} {z : Nat} (E : zEnv tys) : zKnW l D vwCl tys o z (zXX o z) zTs zprog2 zyx361d :=
  zkn_mk E (fun g => List.forall_mem_cons.mpr ⟨zyx354 (o := zwith o g) E, List.forall_mem_cons.mpr ⟨zyx360 (o := zwith o g) E, fun _ h => absurd h List.not_mem_nil⟩⟩) (show zget zprog2 284 = some mX8_sum from rfl) rfl (by decide) (by decide) (by decide) (by decide) (G := [zyx361q, zyx355q, zyx349q, zyx343q]) (List.forall_mem_cons.mpr ⟨zyx361k E, List.forall_mem_cons.mpr ⟨zyx355k E, List.forall_mem_cons.mpr ⟨zyx349k E, List.forall_mem_cons.mpr ⟨zyx343k E, fun _ h => absurd h List.not_mem_nil⟩⟩⟩⟩) zyx361e
theorem zyx362e : zrunw zprog2 (zovW [zyx355d, zyx361d, zyx337d]) 100000 (zcutW [] none ((zyx362r, zyh452), 19, 2340) []) 19 2340 kX8_heldBy (zkin zyx362r zyh452) 0 (zargs 0 zyx362a, [], (zyh451.1, zyh451.2.1, 0), 0, 0) = true := zall_ok zyg16_ok (k := 56) (a := zbzyx362e) rfl
theorem zyx362 {l : Launch} {D : va_G} {tys : List (ClassId × FieldType)} {o : zO} {z : Nat} (E : zEnv tys) : zKnW l D vwCl tys o z (zXX o z) zTs zprog2 zyx362d :=
  zkn_mk E (fun g => List.forall_mem_cons.mpr ⟨zyx355 (o := zwith o g) E, List.forall_mem_cons.mpr ⟨zyx361 (o := zwith o g) E, List.forall_mem_cons.mpr ⟨zyx337 (o := zwith o g) E, fun _ h => absurd h List.not_mem_nil⟩⟩⟩) (show zget zprog2 229 = some mX8_heldBy from rfl) rfl (by decide) (by decide) (by decide) (by decide) (G := []) (fun _ h => absurd h List.not_mem_nil) zyx362e
theorem zyx363e : zrunw zprog2 (zovW []) 100000 zcut0 4 480 kX8_oneOf (zkinL zyx363q) 0 (zargs 0 zyx363a, [], (zyh448.1, zyh448.2.1, 0), 0, 0) = true := zall_ok zyg16_ok (k := 57) (a := zbzyx363e) rfl
theorem zyx363 {l : Launch} {D : va_G} {tys : List (ClassId × FieldType)} {o : zO} {z : Nat} (E : zEnv tys) : zKnW l D vwCl tys o z (zXX o z) zTs zprog2 zyx363d :=
  zkn_ml E (fun g => fun _ h => absurd h List.not_mem_nil) (show zget zprog2 260 = some mX8_oneOf from rfl) rfl (by decide) (by decide) (by decide) (by decide) zyx363e
theorem zyx364c0 : zchkX [] zprog2 (zovW [zyx363d]) 100000 kX8_number [] [zyx364q0] [zyx364q0] = true := zall_ok zyg16_ok (k := 58) (a := zbzyx364c0) rfl
theorem zyx364_k0 {l : Launch} {D : va_G} {tys : List (ClassId × FieldType)} {o : zO} {z : Nat} (E : zEnv tys) : zPtOk l D vwCl tys o z (zXX o z) zTs mX8_number zyx364q0 := zkn_pt E (fun g => List.forall_mem_cons.mpr ⟨zyx363 (o := zwith o g) E, fun _ h => absurd h List.not_mem_nil⟩) (show zget zprog2 259 = some mX8_number from rfl) (fun _ h => absurd h List.not_mem_nil) zyx364c0 _ (List.mem_of_getElem? (i := 0) rfl)
theorem zyx364e : zrunw zprog2 (zovW [zyx363d]) 100000 (zcutW [] none ((zyx364r, zyh449), 5, 600) [zyx364q0]) 5 600 kX8_number (zkin zyx364r zyh449) 0 (zargs 0 zyx364a, [], (zyh448.1, zyh448.2.1, 0), 0, 0) = true := zall_ok zyg16_ok (k := 59) (a := zbzyx364e) rfl
theorem zyx364 {l : Launch} {D : va_G} {tys : List (ClassId × FieldType)} {o : zO} {z : Nat} (E : zEnv tys) : zKnW l D vwCl tys o z (zXX o z) zTs zprog2 zyx364d :=
  zkn_mk E (fun g => List.forall_mem_cons.mpr ⟨zyx363 (o := zwith o g) E, fun _ h => absurd h List.not_mem_nil⟩) (show zget zprog2 259 = some mX8_number from rfl) rfl (by decide) (by decide) (by decide) (by decide) (G := [zyx364q0]) (List.forall_mem_cons.mpr ⟨zyx364_k0 E, fun _ h => absurd h List.not_mem_nil⟩) zyx364e
theorem zyx365e : zrunw zprog2 (zovW [zyx362d, zyx359d, zyx337d, zyx364d, zyx336d]) 100000 (zcutW [] none ((zyx365r, zyh449), 20, 2460) []) 20 2460 k2X8_thing (zkin zyx365r zyh449) 0 (zargs 0 zyx365a, [], (zyh448.1, zyh448.2.1, 0), 0, 0) = true := zall_ok zyg16_ok (k := 60) (a := zbzyx365e) rfl
theorem zyx365 {l : Launch} {D : va_G} {tys : List (ClassId × FieldType)} {o : zO} {z : Nat} (E : zEnv tys) : zKnW l D vwCl tys o z (zXX o z) zTs zprog2 zyx365d :=
  zkn_mk E (fun g => List.forall_mem_cons.mpr ⟨zyx362 (o := zwith o g) E, List.forall_mem_cons.mpr ⟨zyx359 (o := zwith o g) E, List.forall_mem_cons.mpr ⟨zyx337 (o := zwith o g) E, List.forall_mem_cons.mpr ⟨zyx364 (o := zwith o g) E, List.forall_mem_cons.mpr ⟨zyx336 (o := zwith o g) E, fun _ h => absurd h List.not_mem_nil⟩⟩⟩⟩⟩) (show zget zprog2 292 = some m2X8_thing from rfl) rfl (by decide) (by decide) (by decide) (by decide) (G := []) (fun _ h => absurd h List.not_mem_nil) zyx365e

