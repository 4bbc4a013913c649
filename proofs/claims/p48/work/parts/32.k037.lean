noncomputable def zyc890 : zC := .inr (8, [zyv114, zyv15, zyv15, zyv15, zyv114, zyv114, zyv114, zyv114, zyv15, zyv114, zyv15, zyv15, zyv127, zyv17, zyv315, zyv354, zyv17, zyv114, zyv114, zyv114, zyv15, zyv36, zyv129, zyv114, zyv15, zyv114, zyv114, zyv15, zyv15, zyv114, zyv114, zyv114, zyv114, zyv114, zyv114, zyv114, zyv114, zyv114, zyv114, zyv15, zyv114, zyv114, zyv114, zyv114, zyv15, zyv15, zyv15, zyv15, zyv114, zyv114, zyv114])
noncomputable def zyr816 : List zC := [zyc60, zyc60, zyc60, zyc69, zyc10, zyc10, zyc10, zyc12, zyc70, zyc8, zyc8, zyc70, zyc8, zyc8, zyc890, zyc52]
noncomputable def zyh1044 : zH := (126, [zyr9, zyr10, zyr11, zyr12, zyr13, zyr816, zyr6, zyr7], zym9)
noncomputable def zyc891 : zC := .inr (8, [zyv114, zyv15, zyv15, zyv15, zyv114, zyv114, zyv114, zyv114, zyv15, zyv114, zyv15, zyv15, zyv127, zyv17, zyv315, zyv353, zyv17, zyv114, zyv114, zyv114, zyv15, zyv36, zyv129, zyv114, zyv15, zyv114, zyv114, zyv15, zyv15, zyv114, zyv114, zyv114, zyv114, zyv114, zyv114, zyv114, zyv114, zyv114, zyv114, zyv15, zyv114, zyv114, zyv114, zyv114, zyv15, zyv15, zyv15, zyv15, zyv114, zyv114, zyv114])
noncomputable def zyr817 : List zC := [zyc60, zyc60, zyc60, zyc69, zyc10, zyc10, zyc10, zyc12, zyc70, zyc8, zyc8, zyc70, zyc8, zyc8, zyc891, zyc52]
noncomputable def zyh1045 : zH := (126, [zyr9, zyr10, zyr11, zyr12, zyr13, zyr817, zyr6, zyr7], zym9)
noncomputable def zyc892 : zC := .inr (8, [zyv114, zyv15, zyv15, zyv15, zyv114, zyv114, zyv114, zyv114, zyv15, zyv114, zyv15, zyv15, zyv127, zyv17, zyv315, zyv352, zyv17, zyv114, zyv114, zyv114, zyv15, zyv36, zyv129, zyv114, zyv15, zyv114, zyv114, zyv15, zyv15, zyv114, zyv114, zyv114, zyv114, zyv114, zyv114, zyv114, zyv114, zyv114, zyv114, zyv15, zyv114, zyv114, zyv114, zyv114, zyv15, zyv15, zyv15, zyv15, zyv114, zyv114, zyv114])
noncomputable def zyr818 : List zC := [zyc60, zyc60, zyc60, zyc69, zyc10, zyc10, zyc10, zyc12, zyc70, zyc8, zyc8, zyc70, zyc8, zyc8, zyc892, zyc52]
noncomputable def zyh1046 : zH := (126, [zyr9, zyr10, zyr11, zyr12, zyr13, zyr818, zyr6, zyr7], zym9)
noncomputable def zyc893 : zC := .inr (8, [zyv114, zyv15, zyv15, zyv15, zyv114, zyv114, zyv114, zyv114, zyv15, zyv114, zyv15, zyv15, zyv127, zyv17, zyv315, zyv351, zyv17, zyv114, zyv114, zyv114, zyv15, zyv36, zyv129, zyv114, zyv15, zyv114, zyv114, zyv15, zyv15, zyv114, zyv114, zyv114, zyv114, zyv114, zyv114, zyv114, zyv114, zyv114, zyv114, zyv15, zyv114, zyv114, zyv114, zyv114, zyv15, zyv15, zyv15, zyv15, zyv114, zyv114, zyv114])
noncomputable def zyr819 : List zC := [zyc60, zyc60, zyc60, zyc69, zyc10, zyc10, zyc10, zyc12, zyc70, zyc8, zyc8, zyc70, zyc8, zyc8, zyc893, zyc52]
noncomputable def zyh1047 : zH := (126, [zyr9, zyr10, zyr11, zyr12, zyr13, zyr819, zyr6, zyr7], zym9)
/-! X8_sum ((('r', 103), 40, 37),) -/
noncomputable def zyx841a : List zAV := [.inr (.inr (.inl 94)), .inl ((.ofNat 1, .ofNat 4), none)]
def zyx841r : Option zAV := some (.inl ((.negSucc 2147483647, .ofNat 2147483647), none))
noncomputable def zyx841q : zPw := ((6, ([(0, .inr (.inr (.inl 94))), (1, .inl ((.ofNat 0, .ofNat 4), some (1, .ofNat 0))), (2, .inl ((.negSucc 2147483647, .ofNat 2147483647), some (2, .ofNat 0)))], [], zyh1031, 0, 0), [], 0), (zyx841r, zyh1031), 18, 2220)
noncomputable def zbzyx841c : Bool := zchkX [(94, 15)] zprog2 (zovW [zyx834d, zyx840d]) 100000 kX8_sum [zyx835q, zyx829q, zyx823q] [zyx841q] [zyx841q]
noncomputable def zyx841d : zKw := (284, 5, 18, 2220, zyx841a, zyh1030, [(zyx841r, zyh1031)])
noncomputable def zbzyx841e : Bool := zrunw zprog2 (zovW [zyx834d, zyx840d]) 100000 (zcutW [(94, 15)] none ((zyx841r, zyh1031), 18, 2220) [zyx841q, zyx835q, zyx829q, zyx823q]) 18 2220 kX8_sum (zkin zyx841r zyh1031) 0 (zargs 0 zyx841a, [], (zyh1030.1, zyh1030.2.1, 0), 0, 0)
/-! X8_heldBy -/
noncomputable def zyx842a : List zAV := [.inr (.inr (.inl 94)), .inl ((.ofNat 1, .ofNat 4), none)]
def zyx842r : Option zAV := some (.inl ((.negSucc 2147483647, .ofNat 2147483647), none))
noncomputable def zyx842p : List zPw := []
noncomputable def zyx842d : zKw := (229, 3, 19, 2340, zyx842a, zyh1030, [(zyx842r, zyh1031)])
noncomputable def zbzyx842e : Bool := zrunw zprog2 (zovW [zyx835d, zyx841d, zyx817d]) 100000 (zcutW [] none ((zyx842r, zyh1031), 19, 2340) zyx842p) 19 2340 kX8_heldBy (zkin zyx842r zyh1031) 0 (zargs 0 zyx842a, [], (zyh1030.1, zyh1030.2.1, 0), 0, 0)
/-! X8_oneOf -/
noncomputable def zyx843a : List zAV := [zyv316, zyv358, zyv359]
noncomputable def zyx843q : List (Option zAV × zH) := [(some (.inl ((.ofNat 0, .ofNat 0), none)), zyh1044), (some (.inl ((.negSucc 175, .ofNat 79), none)), zyh1029)]
noncomputable def zyx843d : zKw := (260, 3, 4, 480, zyx843a, zyh1027, zyx843q)
noncomputable def zbzyx843e : Bool := zrunw zprog2 (zovW []) 100000 zcut0 4 480 kX8_oneOf (zkinL zyx843q) 0 (zargs 0 zyx843a, [], (zyh1027.1, zyh1027.2.1, 0), 0, 0)
/-! X8_number -/
noncomputable def zyx844a : List zAV := [.inr (.inr (.inl 94)), .inl ((.ofNat 3, .ofNat 3), none)]
def zyx844r : Option zAV := some (.inl ((.negSucc 2147483647, .ofNat 2147483647), none))
noncomputable def zyx844p : List zPw := [((11, ([(0, .inr (.inr (.inl 94))), (1, .inl ((.ofNat 3, .ofNat 3), some (1, .ofNat 0))), (2, .inl ((.negSucc 2147483647, .ofNat 2147483647), some (2, .ofNat 0))), (3, .inl ((.ofNat 1, .ofNat 3), some (3, .ofNat 0)))], [], zyh1028, 0, 0), [(3, .negSucc 1)], .ofNat 7), (zyx844r, zyh1028), 5, 600)]
noncomputable def zyx844d : zKw := (259, 4, 5, 600, zyx844a, zyh1027, [(zyx844r, zyh1028)])
noncomputable def zbzyx844c : Bool := zchkX [] zprog2 (zovW [zyx843d]) 100000 kX8_number [] zyx844p zyx844p
noncomputable def zbzyx844e : Bool := zrunw zprog2 (zovW [zyx843d]) 100000 (zcutW [] none ((zyx844r, zyh1028), 5, 600) zyx844p) 5 600 kX8_number (zkin zyx844r zyh1028) 0 (zargs 0 zyx844a, [], (zyh1027.1, zyh1027.2.1, 0), 0, 0)
/-! X8_thing -/
noncomputable def zyx845a : List zAV := [.inr (.inr (.inl 94)), .inl ((.ofNat 0, .ofNat 4), none)]
def zyx845r : Option zAV := some (.inl ((.negSucc 2147483647, .ofNat 2147483647), none))
noncomputable def zyx845p : List zPw := []
noncomputable def zyx845d : zKw := (292, 4, 20, 2460, zyx845a, zyh1027, [(zyx845r, zyh1028)])
noncomputable def zbzyx845e : Bool := zrunw zprog2 (zovW [zyx842d, zyx839d, zyx817d, zyx844d, zyx816d]) 100000 (zcutW [] none ((zyx845r, zyh1028), 20, 2460) zyx845p) 20 2460 k2X8_thing (zkin zyx845r zyh1028) 0 (zargs 0 zyx845a, [], (zyh1027.1, zyh1027.2.1, 0), 0, 0)
/-! X8_product ((('r', 103), 40, 36),) -/
noncomputable def zyx846a : List zAV := [.inr (.inr (.inl 94)), .inl ((.ofNat 0, .ofNat 4), none)]
def zyx846r : Option zAV := some (.inl ((.negSucc 2147483647, .ofNat 2147483647), none))
noncomputable def zyx846q : zPw := ((6, ([(0, .inr (.inr (.inl 94))), (1, .inl ((.ofNat 0, .ofNat 4), some (1, .ofNat 0))), (2, .inl ((.negSucc 2147483647, .ofNat 2147483647), some (2, .ofNat 0)))], [], zyh1028, 0, 0), [], 0), (zyx846r, zyh1028), 21, 2580)
noncomputable def zbzyx846c : Bool := zchkX [(94, 15)] zprog2 (zovW [zyx839d, zyx845d]) 100000 k2X8_product [zyx840q, zyx834q, zyx828q, zyx822q] [zyx846q] [zyx846q]
noncomputable def zyx846d : zKw := (265, 5, 21, 2580, zyx846a, zyh1027, [(zyx846r, zyh1028)])
noncomputable def zbzyx846e : Bool := zrunw zprog2 (zovW [zyx839d, zyx845d]) 100000 (zcutW [(94, 15)] none ((zyx846r, zyh1028), 21, 2580) [zyx846q, zyx840q, zyx834q, zyx828q, zyx822q]) 21 2580 k2X8_product (zkin zyx846r zyh1028) 0 (zargs 0 zyx846a, [], (zyh1027.1, zyh1027.2.1, 0), 0, 0)
/-! X8_sum ((('r', 103), 40, 36),) -/
noncomputable def zyx847a : List zAV := [.inr (.inr (.inl 94)), .inl ((.ofNat 1, .ofNat 4), none)]
def zyx847r : Option zAV := some (.inl ((.negSucc 2147483647, .ofNat 2147483647), none))
noncomputable def zyx847q : zPw := ((6, ([(0, .inr (.inr (.inl 94))), (1, .inl ((.ofNat 0, .ofNat 4), some (1, .ofNat 0))), (2, .inl ((.negSucc 2147483647, .ofNat 2147483647), some (2, .ofNat 0)))], [], zyh1028, 0, 0), [], 0), (zyx847r, zyh1028), 22, 2700)
noncomputable def zbzyx847c : Bool := zchkX [(94, 15)] zprog2 (zovW [zyx840d, zyx846d]) 100000 kX8_sum [zyx841q, zyx835q, zyx829q, zyx823q] [zyx847q] [zyx847q]
noncomputable def zyx847d : zKw := (284, 5, 22, 2700, zyx847a, zyh1027, [(zyx847r, zyh1028)])
noncomputable def zbzyx847e : Bool := zrunw zprog2 (zovW [zyx840d, zyx846d]) 100000 (zcutW [(94, 15)] none ((zyx847r, zyh1028), 22, 2700) [zyx847q, zyx841q, zyx835q, zyx829q, zyx823q]) 22 2700 kX8_sum (zkin zyx847r zyh1028) 0 (zargs 0 zyx847a, [], (zyh1027.1, zyh1027.2.1, 0), 0, 0)
/-! X8_heldBy -/
noncomputable def zyx848a : List zAV := [.inr (.inr (.inl 94)), .inl ((.ofNat 1, .ofNat 4), none)]
def zyx848r : Option zAV := some (.inl ((.negSucc 2147483647, .ofNat 2147483647), none))
noncomputable def zyx848p : List zPw := []
noncomputable def zyx848d : zKw := (229, 3, 23, 2820, zyx848a, zyh1027, [(zyx848r, zyh1028)])
noncomputable def zbzyx848e : Bool := zrunw zprog2 (zovW [zyx841d, zyx847d, zyx816d]) 100000 (zcutW [] none ((zyx848r, zyh1028), 23, 2820) zyx848p) 23 2820 kX8_heldBy (zkin zyx848r zyh1028) 0 (zargs 0 zyx848a, [], (zyh1027.1, zyh1027.2.1, 0), 0, 0)
/-! X8_oneOf -/
noncomputable def zyx849a : List zAV := [zyv316, zyv358, zyv359]
noncomputable def zyx849q : List (Option zAV × zH) := [(some (.inl ((.ofNat 0, .ofNat 0), none)), zyh1045), (some (.inl ((.negSucc 175, .ofNat 79), none)), zyh1026)]
noncomputable def zyx849d : zKw := (260, 3, 4, 480, zyx849a, zyh1024, zyx849q)
noncomputable def zbzyx849e : Bool := zrunw zprog2 (zovW []) 100000 zcut0 4 480 kX8_oneOf (zkinL zyx849q) 0 (zargs 0 zyx849a, [], (zyh1024.1, zyh1024.2.1, 0), 0, 0)
/-! X8_number -/
noncomputable def zyx850a : List zAV := [.inr (.inr (.inl 94)), .inl ((.ofNat 3, .ofNat 3), none)]
def zyx850r : Option zAV := some (.inl ((.negSucc 2147483647, .ofNat 2147483647), none))
noncomputable def zyx850p : List zPw := [((11, ([(0, .inr (.inr (.inl 94))), (1, .inl ((.ofNat 3, .ofNat 3), some (1, .ofNat 0))), (2, .inl ((.negSucc 2147483647, .ofNat 2147483647), some (2, .ofNat 0))), (3, .inl ((.ofNat 1, .ofNat 3), some (3, .ofNat 0)))], [], zyh1025, 0, 0), [(3, .negSucc 1)], .ofNat 7), (zyx850r, zyh1025), 5, 600)]
noncomputable def zyx850d : zKw := (259, 4, 5, 600, zyx850a, zyh1024, [(zyx850r, zyh1025)])
noncomputable def zbzyx850c : Bool := zchkX [] zprog2 (zovW [zyx849d]) 100000 kX8_number [] zyx850p zyx850p
noncomputable def zbzyx850e : Bool := zrunw zprog2 (zovW [zyx849d]) 100000 (zcutW [] none ((zyx850r, zyh1025), 5, 600) zyx850p) 5 600 kX8_number (zkin zyx850r zyh1025) 0 (zargs 0 zyx850a, [], (zyh1024.1, zyh1024.2.1, 0), 0, 0)
/-! X8_thing -/
noncomputable def zyx851a : List zAV := [.inr (.inr (.inl 94)), .inl ((.ofNat 0, .ofNat 4), none)]
def zyx851r : Option zAV := some (.inl ((.negSucc 2147483647, .ofNat 2147483647), none))
noncomputable def zyx851p : List zPw := []
noncomputable def zyx851d : zKw := (292, 4, 24, 2940, zyx851a, zyh1024, [(zyx851r, zyh1025)])
noncomputable def zbzyx851e : Bool := zrunw zprog2 (zovW [zyx848d, zyx845d, zyx816d, zyx850d, zyx815d]) 100000 (zcutW [] none ((zyx851r, zyh1025), 24, 2940) zyx851p) 24 2940 k2X8_thing (zkin zyx851r zyh1025) 0 (zargs 0 zyx851a, [], (zyh1024.1, zyh1024.2.1, 0), 0, 0)
/-! X8_product ((('r', 103), 40, 35),) -/
noncomputable def zyx852a : List zAV := [.inr (.inr (.inl 94)), .inl ((.ofNat 0, .ofNat 4), none)]
def zyx852r : Option zAV := some (.inl ((.negSucc 2147483647, .ofNat 2147483647), none))
noncomputable def zyx852q : zPw := ((6, ([(0, .inr (.inr (.inl 94))), (1, .inl ((.ofNat 0, .ofNat 4), some (1, .ofNat 0))), (2, .inl ((.negSucc 2147483647, .ofNat 2147483647), some (2, .ofNat 0)))], [], zyh1025, 0, 0), [], 0), (zyx852r, zyh1025), 25, 3060)
noncomputable def zbzyx852c : Bool := zchkX [(94, 15)] zprog2 (zovW [zyx845d, zyx851d]) 100000 k2X8_product [zyx846q, zyx840q, zyx834q, zyx828q, zyx822q] [zyx852q] [zyx852q]
noncomputable def zyx852d : zKw := (265, 5, 25, 3060, zyx852a, zyh1024, [(zyx852r, zyh1025)])
noncomputable def zbzyx852e : Bool := zrunw zprog2 (zovW [zyx845d, zyx851d]) 100000 (zcutW [(94, 15)] none ((zyx852r, zyh1025), 25, 3060) [zyx852q, zyx846q, zyx840q, zyx834q, zyx828q, zyx822q]) 25 3060 k2X8_product (zkin zyx852r zyh1025) 0 (zargs 0 zyx852a, [], (zyh1024.1, zyh1024.2.1, 0), 0, 0)
/-! X8_sum ((('r', 103), 40, 35),) -/
noncomputable def zyx853a : List zAV := [.inr (.inr (.inl 94)), .inl ((.ofNat 1, .ofNat 4), none)]
def zyx853r : Option zAV := some (.inl ((.negSucc 2147483647, .ofNat 2147483647), none))
noncomputable def zyx853q : zPw := ((6, ([(0, .inr (.inr (.inl 94))), (1, .inl ((.ofNat 0, .ofNat 4), some (1, .ofNat 0))), (2, .inl ((.negSucc 2147483647, .ofNat 2147483647), some (2, .ofNat 0)))], [], zyh1025, 0, 0), [], 0), (zyx853r, zyh1025), 26, 3180)
noncomputable def zbzyx853c : Bool := zchkX [(94, 15)] zprog2 (zovW [zyx846d, zyx852d]) 100000 kX8_sum [zyx847q, zyx841q, zyx835q, zyx829q, zyx823q] [zyx853q] [zyx853q]
noncomputable def zyx853d : zKw := (284, 5, 26, 3180, zyx853a, zyh1024, [(zyx853r, zyh1025)])
noncomputable def zbzyx853e : Bool := zrunw zprog2 (zovW [zyx846d, zyx852d]) 100000 (zcutW [(94, 15)] none ((zyx853r, zyh1025), 26, 3180) [zyx853q, zyx847q, zyx841q, zyx835q, zyx829q, zyx823q]) 26 3180 kX8_sum (zkin zyx853r zyh1025) 0 (zargs 0 zyx853a, [], (zyh1024.1, zyh1024.2.1, 0), 0, 0)
/-! X8_heldBy -/
noncomputable def zyx854a : List zAV := [.inr (.inr (.inl 94)), .inl ((.ofNat 1, .ofNat 4), none)]
def zyx854r : Option zAV := some (.inl ((.negSucc 2147483647, .ofNat 2147483647), none))
noncomputable def zyx854p : List zPw := []
noncomputable def zyx854d : zKw := (229, 3, 27, 3300, zyx854a, zyh1024, [(zyx854r, zyh1025)])
noncomputable def zbzyx854e : Bool := zrunw zprog2 (zovW [zyx847d, zyx853d, zyx815d]) 100000 (zcutW [] none ((zyx854r, zyh1025), 27, 3300) zyx854p) 27 3300 kX8_heldBy (zkin zyx854r zyh1025) 0 (zargs 0 zyx854a, [], (zyh1024.1, zyh1024.2.1, 0), 0, 0)
/-! X8_oneOf -/
noncomputable def zyx855a : List zAV := [zyv316, zyv358, zyv359]
noncomputable def zyx855q : List (Option zAV × zH) := [(some (.inl ((.ofNat 0, .ofNat 0), none)), zyh1046), (some (.inl ((.negSucc 175, .ofNat 79), none)), zyh1023)]
noncomputable def zyx855d : zKw := (260, 3, 4, 480, zyx855a, zyh1021, zyx855q)
noncomputable def zbzyx855e : Bool := zrunw zprog2 (zovW []) 100000 zcut0 4 480 kX8_oneOf (zkinL zyx855q) 0 (zargs 0 zyx855a, [], (zyh1021.1, zyh1021.2.1, 0), 0, 0)
/-! X8_number -/
noncomputable def zyx856a : List zAV := [.inr (.inr (.inl 94)), .inl ((.ofNat 3, .ofNat 3), none)]
def zyx856r : Option zAV := some (.inl ((.negSucc 2147483647, .ofNat 2147483647), none))
noncomputable def zyx856p : List zPw := [((11, ([(0, .inr (.inr (.inl 94))), (1, .inl ((.ofNat 3, .ofNat 3), some (1, .ofNat 0))), (2, .inl ((.negSucc 2147483647, .ofNat 2147483647), some (2, .ofNat 0))), (3, .inl ((.ofNat 1, .ofNat 3), some (3, .ofNat 0)))], [], zyh1022, 0, 0), [(3, .negSucc 1)], .ofNat 7), (zyx856r, zyh1022), 5, 600)]
noncomputable def zyx856d : zKw := (259, 4, 5, 600, zyx856a, zyh1021, [(zyx856r, zyh1022)])
noncomputable def zbzyx856c : Bool := zchkX [] zprog2 (zovW [zyx855d]) 100000 kX8_number [] zyx856p zyx856p
noncomputable def zbzyx856e : Bool := zrunw zprog2 (zovW [zyx855d]) 100000 (zcutW [] none ((zyx856r, zyh1022), 5, 600) zyx856p) 5 600 kX8_number (zkin zyx856r zyh1022) 0 (zargs 0 zyx856a, [], (zyh1021.1, zyh1021.2.1, 0), 0, 0)
/-! X8_thing -/
noncomputable def zyx857a : List zAV := [.inr (.inr (.inl 94)), .inl ((.ofNat 0, .ofNat 4), none)]
def zyx857r : Option zAV := some (.inl ((.negSucc 2147483647, .ofNat 2147483647), none))
noncomputable def zyx857p : List zPw := []
noncomputable def zyx857d : zKw := (292, 4, 28, 3420, zyx857a, zyh1021, [(zyx857r, zyh1022)])
noncomputable def zbzyx857e : Bool := zrunw zprog2 (zovW [zyx854d, zyx851d, zyx815d, zyx856d, zyx814d]) 100000 (zcutW [] none ((zyx857r, zyh1022), 28, 3420) zyx857p) 28 3420 k2X8_thing (zkin zyx857r zyh1022) 0 (zargs 0 zyx857a, [], (zyh1021.1, zyh1021.2.1, 0), 0, 0)
/-! X8_product ((('r', 103), 40, 34),) -/
noncomputable def zyx858a : List zAV := [.inr (.inr (.inl 94)), .inl ((.ofNat 0, .ofNat 4), none)]
def zyx858r : Option zAV := some (.inl ((.negSucc 2147483647, .ofNat 2147483647), none))
noncomputable def zyx858q : zPw := ((6, ([(0, .inr (.inr (.inl 94))), (1, .inl ((.ofNat 0, .ofNat 4), some (1, .ofNat 0))), (2, .inl ((.negSucc 2147483647, .ofNat 2147483647), some (2, .ofNat 0)))], [], zyh1022, 0, 0), [], 0), (zyx858r, zyh1022), 29, 3540)
noncomputable def zbzyx858c : Bool := zchkX [(94, 15)] zprog2 (zovW [zyx851d, zyx857d]) 100000 k2X8_product [zyx852q, zyx846q, zyx840q, zyx834q, zyx828q, zyx822q] [zyx858q] [zyx858q]
noncomputable def zyx858d : zKw := (265, 5, 29, 3540, zyx858a, zyh1021, [(zyx858r, zyh1022)])
noncomputable def zbzyx858e : Bool := zrunw zprog2 (zovW [zyx851d, zyx857d]) 100000 (zcutW [(94, 15)] none ((zyx858r, zyh1022), 29, 3540) [zyx858q, zyx852q, zyx846q, zyx840q, zyx834q, zyx828q, zyx822q]) 29 3540 k2X8_product (zkin zyx858r zyh1022) 0 (zargs 0 zyx858a, [], (zyh1021.1, zyh1021.2.1, 0), 0, 0)
/-! X8_sum ((('r', 103), 40, 34),) -/
noncomputable def zyx859a : List zAV := [.inr (.inr (.inl 94)), .inl ((.ofNat 1, .ofNat 4), none)]
def zyx859r : Option zAV := some (.inl ((.negSucc 2147483647, .ofNat 2147483647), none))
noncomputable def zyx859q : zPw := ((6, ([(0, .inr (.inr (.inl 94))), (1, .inl ((.ofNat 0, .ofNat 4), some (1, .ofNat 0))), (2, .inl ((.negSucc 2147483647, .ofNat 2147483647), some (2, .ofNat 0)))], [], zyh1022, 0, 0), [], 0), (zyx859r, zyh1022), 30, 3660)
noncomputable def zbzyx859c : Bool := zchkX [(94, 15)] zprog2 (zovW [zyx852d, zyx858d]) 100000 kX8_sum [zyx853q, zyx847q, zyx841q, zyx835q, zyx829q, zyx823q] [zyx859q] [zyx859q]
noncomputable def zyx859d : zKw := (284, 5, 30, 3660, zyx859a, zyh1021, [(zyx859r, zyh1022)])
noncomputable def zbzyx859e : Bool := zrunw zprog2 (zovW [zyx852d, zyx858d]) 100000 (zcutW [(94, 15)] none ((zyx859r, zyh1022), 30, 3660) [zyx859q, zyx853q, zyx847q, zyx841q, zyx835q, zyx829q, zyx823q]) 30 3660 kX8_sum (zkin zyx859r zyh1022) 0 (zargs 0 zyx859a, [], (zyh1021.1, zyh1021.2.1, 0), 0, 0)
/-! X8_heldBy -/
noncomputable def zyx860a : List zAV := [.inr (.inr (.inl 94)), .inl ((.ofNat 1, .ofNat 4), none)]
def zyx860r : Option zAV := some (.inl ((.negSucc 2147483647, .ofNat 2147483647), none))
noncomputable def zyx860p : List zPw := []
noncomputable def zyx860d : zKw := (229, 3, 31, 3780, zyx860a, zyh1021, [(zyx860r, zyh1022)])
noncomputable def zbzyx860e : Bool := zrunw zprog2 (zovW [zyx853d, zyx859d, zyx814d]) 100000 (zcutW [] none ((zyx860r, zyh1022), 31, 3780) zyx860p) 31 3780 kX8_heldBy (zkin zyx860r zyh1022) 0 (zargs 0 zyx860a, [], (zyh1021.1, zyh1021.2.1, 0), 0, 0)
/-! X8_oneOf -/
noncomputable def zyx861a : List zAV := [zyv316, zyv358, zyv359]
noncomputable def zyx861q : List (Option zAV × zH) := [(some (.inl ((.ofNat 0, .ofNat 0), none)), zyh1047), (some (.inl ((.negSucc 175, .ofNat 79), none)), zyh1020)]
noncomputable def zyx861d : zKw := (260, 3, 4, 480, zyx861a, zyh1018, zyx861q)
noncomputable def zbzyx861e : Bool := zrunw zprog2 (zovW []) 100000 zcut0 4 480 kX8_oneOf (zkinL zyx861q) 0 (zargs 0 zyx861a, [], (zyh1018.1, zyh1018.2.1, 0), 0, 0)
/-! X8_number -/
noncomputable def zyx862a : List zAV := [.inr (.inr (.inl 94)), .inl ((.ofNat 3, .ofNat 3), none)]
def zyx862r : Option zAV := some (.inl ((.negSucc 2147483647, .ofNat 2147483647), none))
noncomputable def zyx862p : List zPw := [((11, ([(0, .inr (.inr (.inl 94))), (1, .inl ((.ofNat 3, .ofNat 3), some (1, .ofNat 0))), (2, .inl ((.negSucc 2147483647, .ofNat 2147483647), some (2, .ofNat 0))), (3, .inl ((.ofNat 1, .ofNat 3), some (3, .ofNat 0)))], [], zyh1019, 0, 0), [(3, .negSucc 1)], .ofNat 7), (zyx862r, zyh1019), 5, 600)]
noncomputable def zyx862d : zKw := (259, 4, 5, 600, zyx862a, zyh1018, [(zyx862r, zyh1019)])
noncomputable def zbzyx862c : Bool := zchkX [] zprog2 (zovW [zyx861d]) 100000 kX8_number [] zyx862p zyx862p
noncomputable def zbzyx862e : Bool := zrunw zprog2 (zovW [zyx861d]) 100000 (zcutW [] none ((zyx862r, zyh1019), 5, 600) zyx862p) 5 600 kX8_number (zkin zyx862r zyh1019) 0 (zargs 0 zyx862a, [], (zyh1018.1, zyh1018.2.1, 0), 0, 0)
/-! X8_thing -/
noncomputable def zyx863a : List zAV := [.inr (.inr (.inl 94)), .inl ((.ofNat 0, .ofNat 4), none)]
def zyx863r : Option zAV := some (.inl ((.negSucc 2147483647, .ofNat 2147483647), none))
noncomputable def zyx863p : List zPw := []
noncomputable def zyx863d : zKw := (292, 4, 32, 3900, zyx863a, zyh1018, [(zyx863r, zyh1019)])
noncomputable def zbzyx863e : Bool := zrunw zprog2 (zovW [zyx860d, zyx857d, zyx814d, zyx862d, zyx813d]) 100000 (zcutW [] none ((zyx863r, zyh1019), 32, 3900) zyx863p) 32 3900 k2X8_thing (zkin zyx863r zyh1019) 0 (zargs 0 zyx863a, [], (zyh1018.1, zyh1018.2.1, 0), 0, 0)
/-! X8_product ((('r', 103), 40, 33),) -/
noncomputable def zyx864a : List zAV := [.inr (.inr (.inl 94)), .inl ((.ofNat 0, .ofNat 4), none)]
def zyx864r : Option zAV := some (.inl ((.negSucc 2147483647, .ofNat 2147483647), none))
noncomputable def zyx864q : zPw := ((6, ([(0, .inr (.inr (.inl 94))), (1, .inl ((.ofNat 0, .ofNat 4), some (1, .ofNat 0))), (2, .inl ((.negSucc 2147483647, .ofNat 2147483647), some (2, .ofNat 0)))], [], zyh1019, 0, 0), [], 0), (zyx864r, zyh1019), 33, 4020)
noncomputable def zbzyx864c : Bool := zchkX [(94, 15)] zprog2 (zovW [zyx857d, zyx863d]) 100000 k2X8_product [zyx858q, zyx852q, zyx846q, zyx840q, zyx834q, zyx828q, zyx822q] [zyx864q] [zyx864q]
noncomputable def zyx864d : zKw := (265, 5, 33, 4020, zyx864a, zyh1018, [(zyx864r, zyh1019)])
noncomputable def zbzyx864e : Bool := zrunw zprog2 (zovW [zyx857d, zyx863d]) 100000 (zcutW [(94, 15)] none ((zyx864r, zyh1019), 33, 4020) [zyx864q, zyx858q, zyx852q, zyx846q, zyx840q, zyx834q, zyx828q, zyx822q]) 33 4020 k2X8_product (zkin zyx864r zyh1019) 0 (zargs 0 zyx864a, [], (zyh1018.1, zyh1018.2.1, 0), 0, 0)
noncomputable def zyg37 : List Bool := [zbzyx841c, zbzyx841e, zbzyx842e, zbzyx843e, zbzyx844c, zbzyx844e, zbzyx845e, zbzyx846c, zbzyx846e, zbzyx847c, zbzyx847e, zbzyx848e, zbzyx849e, zbzyx850c, zbzyx850e, zbzyx851e, zbzyx852c, zbzyx852e, zbzyx853c, zbzyx853e, zbzyx854e, zbzyx855e, zbzyx856c, zbzyx856e, zbzyx857e, zbzyx858c, zbzyx858e, zbzyx859c, zbzyx859e, zbzyx860e, zbzyx861e, zbzyx862c, zbzyx862e, zbzyx863e, zbzyx864c, zbzyx864e]
set_option maxRecDepth 100000 in
theorem zyg37_ok : zall (fun b => b) zyg37 = true := by decide +kernel
theorem zyx841c : zchkX [(94, 15)] zprog2 (zovW [zyx834d, zyx840d]) 100000 kX8_sum [zyx835q, zyx829q, zyx823q] [zyx841q] [zyx841q] = true := zall_ok zyg37_ok (k := 0) (a := zbzyx841c) rfl
theorem zyx841k {l : Launch} {D : va_G} {tys : List (ClassId × FieldType)} {o : zO} {z : Nat} (E : zEnv tys) : zPtOk l D vwCl tys o z (zXX o z) zTs mX8_sum zyx841q := zkn_pt E (fun g => List.forall_mem_cons.mpr ⟨zyx834 (o := zwith o g) E, List.forall_mem_cons.mpr ⟨zyx840 (o := zwith o g) E, fun _ h => absurd h List.not_mem_nil⟩⟩) (show zget zprog2 284 = some mX8_sum from rfl) (List.forall_mem_cons.mpr ⟨zyx835k E, List.forall_mem_cons.mpr ⟨zyx829k E, List.forall_mem_cons.mpr ⟨zyx823k E, fun _ h => absurd h List.not_mem_nil⟩⟩⟩) zyx841c _ List.mem_cons_self
theorem zyx841e : zrunw zprog2 (zovW [zyx834d, zyx840d]) 100000 (zcutW [(94, 15)] none ((zyx841r, zyh1031), 18, 2220) [zyx841q, zyx835q, zyx829q, zyx823q]) 18 2220 kX8_sum (zkin zyx841r zyh1031) 0 (zargs 0 zyx841a, [], (zyh1030.1, zyh1030.2.1, 0), 0, 0) = true := zall_ok zyg37_ok (k := 1) (a := zbzyx841e) rfl
theorem zyx841 {l : Launch} {D : va_G} {tys : List (ClassId × FieldType)} {o : zO} {z : Nat} (E : zEnv tys) : zKnW l D vwCl tys o z (zXX o z) zTs zprog2 zyx841d :=
  zkn_mk E (fun g => List.forall_mem_cons.mpr ⟨zyx834 (o := zwith o g) E, List.forall_mem_cons.mpr ⟨zyx840 (o := zwith o g) E, fun _ h => absurd h List.not_mem_nil⟩⟩) (show zget zprog2 284 = some mX8_sum from rfl) rfl (by decide) (by decide) (by decide) (by decide) (G := [zyx841q, zyx835q, zyx829q, zyx823q]) (List.forall_mem_cons.mpr ⟨zyx841k E, List.forall_mem_cons.mpr ⟨zyx835k E, List.forall_mem_cons.mpr ⟨zyx829k E, List.forall_mem_cons.mpr ⟨zyx823k E, fun _ h => absurd h List.not_mem_nil⟩⟩⟩⟩) zyx841e
theorem zyx842e : zrunw zprog2 (zovW [zyx835d, zyx841d, zyx817d]) 100000 (zcutW [] none ((zyx842r, zyh1031), 19, 2340) zyx842p) 19 2340 kX8_heldBy (zkin zyx842r zyh1031) 0 (zargs 0 zyx842a, [], (zyh1030.1, zyh1030.2.1, 0), 0, 0) = true := zall_ok zyg37_ok (k := 2) (a := zbzyx842e) rfl
theorem zyx842 {l : Launch} {D : va_G} {tys : List (ClassId × FieldType)} {o : zO} {z : Nat} (E : zEnv tys) : zKnW l D vwCl tys o z (zXX o z) zTs zprog2 zyx842d :=
  zkn_mk E (fun g => List.forall_mem_cons.mpr ⟨zyx835 (o := zwith o g) E, List.forall_mem_cons.mpr ⟨zyx841 (o := zwith o g) E, List.forall_mem_cons.mpr ⟨zyx817 (o := zwith o g) E, fun _ h => absurd h List.not_mem_nil⟩⟩⟩) (show zget zprog2 229 = some mX8_heldBy from rfl) rfl (by decide) (by decide) (by decide) (by decide) (G := zyx842p) (fun _ h => absurd h List.not_mem_nil) zyx842e
theorem zyx843e : zrunw zprog2 (zovW []) 100000 zcut0 4 480 kX8_oneOf (zkinL zyx843q) 0 (zargs 0 zyx843a, [], (zyh1027.1, zyh1027.2.1, 0), 0, 0) = true := zall_ok zyg37_ok (k := 3) (a := zbzyx843e) rfl
theorem zyx843 {l : Launch} {D : va_G} {tys : List (ClassId × FieldType)} {o : zO} {z : Nat} (E : zEnv tys) : zKnW l D vwCl tys o z (zXX o z) zTs zprog2 zyx843d :=
  zkn_ml E (fun g => fun _ h => absurd h List.not_mem_nil) (show zget zprog2 260 = some mX8_oneOf from rfl) rfl (by decide) (by decide) (by decide) (by decide) zyx843e
theorem zyx844c : zchkX [] zprog2 (zovW [zyx843d]) 100000 kX8_number [] zyx844p zyx844p = true := zall_ok zyg37_ok (k := 4) (a := zbzyx844c) rfl
theorem zyx844e : zrunw zprog2 (zovW [zyx843d]) 100000 (zcutW [] none ((zyx844r, zyh1028), 5, 600) zyx844p) 5 600 kX8_number (zkin zyx844r zyh1028) 0 (zargs 0 zyx844a, [], (zyh1027.1, zyh1027.2.1, 0), 0, 0) = true := zall_ok zyg37_ok (k := 5) (a := zbzyx844e) rfl
theorem zyx844 {l : Launch} {D : va_G} {tys : List (ClassId × FieldType)} {o : zO} {z : Nat} (E : zEnv tys) : zKnW l D vwCl tys o z (zXX o z) zTs zprog2 zyx844d :=
  zkn_mk E (fun g => List.forall_mem_cons.mpr ⟨zyx843 (o := zwith o g) E, fun _ h => absurd h List.not_mem_nil⟩) (show zget zprog2 259 = some mX8_number from rfl) rfl (by decide) (by decide) (by decide) (by decide) (G := zyx844p) (zkn_pt E (fun g => List.forall_mem_cons.mpr ⟨zyx843 (o := zwith o g) E, fun _ h => absurd h List.not_mem_nil⟩) (show zget zprog2 259 = some mX8_number from rfl) (fun _ h => absurd h List.not_mem_nil) zyx844c) zyx844e
theorem zyx845e : zrunw zprog2 (zovW [zyx842d, zyx839d, zyx817d, zyx844d, zyx816d]) 100000 (zcutW [] none ((zyx845r, zyh1028), 20, 2460) zyx845p) 20 2460 k2X8_thing (zkin zyx845r zyh1028) 0 (zargs 0 zyx845a, [], (zyh1027.1, zyh1027.2.1, 0), 0, 0) = true := zall_ok zyg37_ok (k := 6) (a := zbzyx845e) rfl
theorem zyx845 {l : Launch} {D : va_G} {tys : List (ClassId × FieldType)} {o : zO} {z : Nat} (E : zEnv tys) : zKnW l D vwCl tys o z (zXX o z) zTs zprog2 zyx845d :=
  zkn_mk E (fun g => List.forall_mem_cons.mpr ⟨zyx842 (o := zwith o g) E, List.forall_mem_cons.mpr ⟨zyx839 (o := zwith o g) E, List.forall_mem_cons.mpr ⟨zyx817 (o := zwith o g) E, List.forall_mem_cons.mpr ⟨zyx844 (o := zwith o g) E, List.forall_mem_cons.mpr ⟨zyx816 (o := zwith o g) E, fun _ h => absurd h List.not_mem_nil⟩⟩⟩⟩⟩) (show zget zprog2 292 = some m2X8_thing from rfl) rfl (by decide) (by decide) (by decide) (by decide) (G := zyx845p) (fun _ h => absurd h List.not_mem_nil) zyx845e
theorem zyx846c : zchkX [(94, 15)] zprog2 (zovW [zyx839d, zyx845d]) 100000 k2X8_product [zyx840q, zyx834q, zyx828q, zyx822q] [zyx846q] [zyx846q] = true := zall_ok zyg37_ok (k := 7) (a := zbzyx846c) rfl
theorem zyx846k {l : Launch} {D : va_G} {tys : List (ClassId × FieldType)} {o : zO} {z : Nat} (E : zEnv tys) : zPtOk l D vwCl tys o z (zXX o z) zTs m2X8_product zyx846q := zkn_pt E (fun g => List.forall_mem_cons.mpr ⟨zyx839 (o := zwith o g) E, List.forall_mem_cons.mpr ⟨zyx845 (o := zwith o g) E, fun _ h => absurd h List.not_mem_nil⟩⟩) (show zget zprog2 265 = some m2X8_product from rfl) (List.forall_mem_cons.mpr ⟨zyx840k E, List.forall_mem_cons.mpr ⟨zyx834k E, List.forall_mem_cons.mpr ⟨zyx828k E, List.forall_mem_cons.mpr ⟨zyx822k E, fun _ h => absurd h List.not_mem_nil⟩⟩⟩⟩) zyx846c _ List.mem_cons_self
theorem zyx846e : zrunw zprog2 (zovW [zyx839d, zyx845d]) 100000 (zcutW [(94, 15)] none ((zyx846r, zyh1028), 21, 2580) [zyx846q, zyx840q, zyx834q, zyx828q, zyx822q]) 21 2580 k2X8_product (zkin zyx846r zyh1028) 0 (zargs 0 zyx846a, [], (zyh1027.1, zyh1027.2.1, 0), 0, 0) = true := zall_ok zyg37_ok (k := 8) (a := zbzyx846e) rfl
theorem zyx846 {l : Launch} {D : va_G} {tys : List (ClassId × FieldType)} {o : zO} {z : Nat} (E : zEnv tys) : zKnW l D vwCl tys o z (zXX o z) zTs zprog2 zyx846d :=
  zkn_mk E (fun g => List.forall_mem_cons.mpr ⟨zyx839 (o := zwith o g) E, List.forall_mem_cons.mpr ⟨zyx845 (o := zwith o g) E, fun _ h => absurd h List.not_mem_nil⟩⟩) (show zget zprog2 265 = some m2X8_product from rfl) rfl (by decide) (by decide) (by decide) (by decide) (G := [zyx846q, zyx840q, zyx834q, zyx828q, zyx822q]) (List.forall_mem_cons.mpr ⟨zyx846k E, List.forall_mem_cons.mpr ⟨zyx840k E, List.forall_mem_cons.mpr ⟨zyx834k E, List.forall_mem_cons.mpr ⟨zyx828k E, List.forall_mem_cons.mpr ⟨zyx822k E, fun _ h => absurd h List.not_mem_nil⟩⟩⟩⟩⟩) zyx846e
theorem zyx847c : zchkX [(94, 15)] zprog2 (zovW [zyx840d, zyx846d]) 100000 kX8_sum [zyx841q, zyx835q, zyx829q, zyx823q] [zyx847q] [zyx847q] = true := zall_ok zyg37_ok (k := 9) (a := zbzyx847c) rfl
theorem zyx847k {l : Launch} {D : va_G} {tys : List (ClassId × FieldType)} {o : zO} {z : Nat} (E : zEnv tys) : zPtOk l D vwCl tys o z (zXX o z) zTs mX8_sum zyx847q := zkn_pt E (fun g => List.forall_mem_cons.mpr ⟨zyx840 (o := zwith o g) E, List.forall_mem_cons.mpr ⟨zyx846 (o := zwith o g) E, fun _ h => absurd h List.not_mem_nil⟩⟩) (show zget zprog2 284 = some mX8_sum from rfl) (List.forall_mem_cons.mpr ⟨zyx841k E, List.forall_mem_cons.mpr ⟨zyx835k E, List.forall_mem_cons.mpr ⟨zyx829k E, List.forall_mem_cons.mpr ⟨zyx823k E, fun _ h => absurd h List.not_mem_nil⟩⟩⟩⟩) zyx847c _ List.mem_cons_self
theorem zyx847e : zrunw zprog2 (zovW [zyx840d, zyx846d]) 100000 (zcutW [(94, 15)] none ((zyx847r, zyh1028), 22, 2700) [zyx847q, zyx841q, zyx835q, zyx829q, zyx823q]) 22 2700 kX8_sum (zkin zyx847r zyh1028) 0 (zargs 0 zyx847a, [], (zyh1027.1, zyh1027.2.1, 0), 0, 0) = true := zall_ok zyg37_ok (k := 10) (a := zbzyx847e) rfl
theorem zyx847 {l : Launch} {D : va_G} {tys : List (ClassId × FieldType)} {o : zO} {z : Nat} (E : zEnv tys) : zKnW l D vwCl tys o z (zXX o z) zTs zprog2 zyx847d :=
  zkn_mk E (fun g => List.forall_mem_cons.mpr ⟨zyx840 (o := zwith o g) E, List.forall_mem_cons.mpr ⟨zyx846 (o := zwith o g) E, fun _ h => absurd h List.not_mem_nil⟩⟩) (show zget zprog2 284 = some mX8_sum from rfl) rfl (by decide) (by decide) (by decide) (by decide) (G := [zyx847q, zyx841q, zyx835q, zyx829q, zyx823q]) (List.forall_mem_cons.mpr ⟨zyx847k E, List.forall_mem_cons.mpr ⟨zyx841k E, List.forall_mem_cons.mpr ⟨zyx835k E, List.forall_mem_cons.mpr ⟨zyx829k E, List.forall_mem_cons.mpr ⟨zyx823k E, fun _ h => absurd h List.not_mem_nil⟩⟩⟩⟩⟩) zyx847e
theorem zyx848e : zrunw zprog2 (zovW [zyx841d, zyx847d, zyx816d]) 100000 (zcutW [] none ((zyx848r, zyh1028), 23, 2820) zyx848p) 23 2820 kX8_heldBy (zkin zyx848r zyh1028) 0 (zargs 0 zyx848a, [], (zyh1027.1, zyh1027.2.1, 0), 0, 0) = true := zall_ok zyg37_ok (k := 11) (a := zbzyx848e) rfl
theorem zyx848 {l : Launch} {D : va_G} {tys : List (ClassId × FieldType)} {o : zO} {z : Nat} (E : zEnv tys) : zKnW l D vwCl tys o z (zXX o z) zTs zprog2 zyx848d :=
  zkn_mk E (fun g => List.forall_mem_cons.mpr ⟨zyx841 (o := zwith o g) E, List.forall_mem_cons.mpr ⟨zyx847 (o := zwith o g) E, List.forall_mem_cons.mpr ⟨zyx816 (o := zwith o g) E, fun _ h => absurd h List.not_mem_nil⟩⟩⟩) (show zget zprog2 229 = some mX8_heldBy from rfl) rfl (by decide) (by decide) (by decide) (by decide) (G := zyx848p) (fun _ h => absurd h List.not_mem_nil) zyx848e
theorem zyx849e : zrunw zprog2 (zovW []) 100000 zcut0 4 480 kX8_oneOf (zkinL zyx849q) 0 (zargs 0 zyx849a, [], (zyh1024.1, zyh1024.2.1, 0), 0, 0) = true := zall_ok zyg37_ok (k := 12) (a := zbzyx849e) rfl
theorem zyx849 {l : Launch} {D : va_G} {tys : List (ClassId × FieldType)} {o : zO} {z : Nat} (E : zEnv tys) : zKnW l D vwCl tys o z (zXX o z) zTs zprog2 zyx849d :=
  zkn_ml E (fun g => fun _ h => absurd h List.not_mem_nil) (show zget zprog2 260 = some mX8_oneOf from rfl) rfl (by decide) (by decide) (by decide) (by decide) zyx849e
theorem zyx850c : zchkX [] zprog2 (zovW [zyx849d]) 100000 kX8_number [] zyx850p zyx850p = true := zall_ok zyg37_ok (k := 13) (a := zbzyx850c) rfl
theorem zyx850e : zrunw zprog2 (zovW [zyx849d]) 100000 (zcutW [] none ((zyx850r, zyh1025), 5, 600) zyx850p) 5 600 kX8_number (zkin zyx850r zyh1025) 0 (zargs 0 zyx850a, [], (zyh1024.1, zyh1024.2.1, 0), 0, 0) = true := zall_ok zyg37_ok (k := 14) (a := zbzyx850e) rfl
theorem zyx850 {l : Launch} {D : va_G} {tys : List (ClassId × FieldType)} {o : zO} {z : Nat} (E : zEnv tys) : zKnW l D vwCl tys o z (zXX o z) zTs zprog2 zyx850d :=
  zkn_mk E (fun g => List.forall_mem_cons.mpr ⟨zyx849 (o := zwith o g) E, fun _ h => absurd h List.not_mem_nil⟩) (show zget zprog2 259 = some mX8_number from rfl) rfl (by decide) (by decide) (by decide) (by decide) (G := zyx850p) (zkn_pt E (fun g => List.forall_mem_cons.mpr ⟨zyx849 (o := zwith o g) E, fun _ h => absurd h List.not_mem_nil⟩) (show zget zprog2 259 = some mX8_number from rfl) (fun _ h => absurd h List.not_mem_nil) zyx850c) zyx850e
theorem zyx851e : zrunw zprog2 (zovW [zyx848d, zyx845d, zyx816d, zyx850d, zyx815d]) 100000 (zcutW [] none ((zyx851r, zyh1025), 24, 2940) zyx851p) 24 2940 k2X8_thing (zkin zyx851r zyh1025) 0 (zargs 0 zyx851a, [], (zyh1024.1, zyh1024.2.1, 0), 0, 0) = true := zall_ok zyg37_ok (k := 15) (a := zbzyx851e) rfl
theorem zyx851 {l : Launch} {D : va_G} {tys : List (ClassId × FieldType)} {o : zO} {z : Nat} (E : zEnv tys) : zKnW l D vwCl tys o z (zXX o z) zTs zprog2 zyx851d :=
  zkn_mk E (fun g => List.forall_mem_cons.mpr ⟨zyx848 (o := zwith o g) E, List.forall_mem_cons.mpr ⟨zyx845 (o := zwith o g) E, List.forall_mem_cons.mpr ⟨zyx816 (o := zwith o g) E, List.forall_mem_cons.mpr ⟨zyx850 (o := zwith o g) E, List.forall_mem_cons.mpr ⟨zyx815 (o := zwith o g) E, fun _ h => absurd h List.not_mem_nil⟩⟩⟩⟩⟩) (show zget zprog2 292 = some m2X8_thing from rfl) rfl (by decide) (by decide) (by decide) (by decide) (G := zyx851p) (fun _ h => absurd h List.not_mem_nil) zyx851e
theorem zyx852c : zchkX [(94, 15)] zprog2 (zovW [zyx845d, zyx851d]) 100000 k2X8_product [zyx846q, zyx840q, zyx834q, zyx828q, zyx822q] [zyx852q] [zyx852q] = true := zall_ok zyg37_ok (k := 16) (a := zbzyx852c) rfl
theorem zyx852k {l : Launch} {D : va_G} {tys : List (ClassId × FieldType)} {o : zO} {z : Nat} (E : zEnv tys) : zPtOk l D vwCl tys o z (zXX o z) zTs m2X8_product zyx852q := zkn_pt E (fun g => List.forall_mem_cons.mpr ⟨zyx845 (o := zwith o g) E, List.forall_mem_cons.mpr ⟨zyx851 (o := zwith o g) E, fun _ h => absurd h List.not_mem_nil⟩⟩) (show zget zprog2 265 = some m2X8_product from rfl) (List.forall_mem_cons.mpr ⟨zyx846k E, List.forall_mem_cons.mpr ⟨zyx840k E, List.forall_mem_cons.mpr ⟨zyx834k E, List.forall_mem_cons.mpr ⟨zyx828k E, List.forall_mem_cons.mpr ⟨zyx822k E, fun _ h => absurd h List.not_mem_nil⟩⟩⟩⟩⟩) zyx852c _ List.mem_cons_self
theorem zyx852e : zrunw zprog2 (zovW [zyx845d, zyx851d]) 100000 (zcutW [(94, 15)] none ((zyx852r, zyh1025), 25, 3060) [zyx852q, zyx846q, zyx840q, zyx834q, zyx828q, zyx822q]) 25 3060 k2X8_product (zkin zyx852r zyh1025) 0 (zargs 0 zyx852a, [], (zyh1024.1, zyh1024.2.1, 0), 0, 0) = true := zall_ok zyg37_ok (k := 17) (a := zbzyx852e) rfl
theorem zyx852 {l : Launch} {D : va_G} {tys : List (ClassId × FieldType)} {o : zO} {z : Nat} (E : zEnv tys) : zKnW l D vwCl tys o z (zXX o z) zTs zprog2 zyx852d :=
  zkn_mk E (fun g => List.forall_mem_cons.mpr ⟨zyx845 (o := zwith o g) E, List.forall_mem_cons.mpr ⟨zyx851 (o := zwith o g) E, fun _ h => absurd h List.not_mem_nil⟩⟩) (show zget zprog2 265 = some m2X8_product from rfl) rfl (by decide) (by decide) (by decide) (by decide) (G := [zyx852q, zyx846q, zyx840q, zyx834q, zyx828q, zyx822q]) (List.forall_mem_cons.mpr ⟨zyx852k E, List.forall_mem_cons.mpr ⟨zyx846k E, List.forall_mem_cons.mpr ⟨zyx840k E, List.forall_mem_cons.mpr ⟨zyx834k E, List.forall_mem_cons.mpr ⟨zyx828k E, List.forall_mem_cons.mpr ⟨zyx822k E, fun _ h => absurd h List.not_mem_nil⟩⟩⟩⟩⟩⟩) zyx852e
theorem zyx853c : zchkX [(94, 15)] zprog2 (zovW [zyx846d, zyx852d]) 100000 kX8_sum [zyx847q, zyx841q, zyx835q, zyx829q, zyx823q] [zyx853q] [zyx853q] = true := zall_ok zyg37_ok (k := 18) (a := zbzyx853c) rfl
theorem zyx853k {l : Launch} {D : va_G} {tys : List (ClassId × FieldType)} {o : zO} {z : Nat} (E : zEnv tys) : zPtOk l D vwCl tys o z (zXX o z) zTs mX8_sum zyx853q := zkn_pt E (fun g => List.forall_mem_cons.mpr ⟨zyx846 (o := zwith o g) E, List.forall_mem_cons.mpr ⟨zyx852 (o := zwith o g) E, fun _ h => absurd h List.not_mem_nil⟩⟩) (show zget zprog2 284 = some mX8_sum from rfl) (List.forall_mem_cons.mpr ⟨zyx847k E, List.forall_mem_cons.mpr ⟨zyx841k E, List.forall_mem_cons.mpr ⟨zyx835k E, List.forall_mem_cons.mpr ⟨zyx829k E, List.forall_mem_cons.mpr ⟨zyx823k E, fun _ h => absurd h List.not_mem_nil⟩⟩⟩⟩⟩) zyx853c _ List.mem_cons_self
theorem zyx853e : zrunw zprog2 (zovW [zyx846d, zyx852d]) 100000 (zcutW [(94, 15)] none ((zyx853r, zyh1025), 26, 3180) [zyx853q, zyx847q, zyx841q, zyx835q, zyx829q, zyx823q]) 26 3180 kX8_sum (zkin zyx853r zyh1025) 0 (zargs 0 zyx853a, [], (zyh1024.1, zyh1024.2.1, 0), 0, 0) = true := zall_ok zyg37_ok (k := 19) (a := zbzyx853e) rfl
theorem zyx853 {l : Launch} {D : va_G} {tys : List (ClassId × FieldType)} {o : zO} {z : Nat} (E : zEnv tys) : zKnW l D vwCl tys o z (zXX o z) zTs zprog2 zyx853d :=
  zkn_mk E (fun g => List.forall_mem_cons.mpr ⟨zyx846 (o := zwith o g) E, List.forall_mem_cons.mpr ⟨zyx852 (o := zwith o g) E, fun _ h => absurd h List.not_mem_nil⟩⟩) (show zget zprog2 284 = some mX8_sum from rfl) rfl (by decide) (by decide) (by decide) (by decide) (G := [zyx853q, zyx847q, zyx841q, zyx835q, zyx829q, zyx823q]) (List.forall_mem_cons.mpr ⟨zyx853k E, List.forall_mem_cons.mpr ⟨zyx847k E, List.forall_mem_cons.mpr ⟨zyx841k E, List.forall_mem_cons.mpr ⟨zyx835k E, List.forall_mem_cons.mpr ⟨zyx829k E, List.forall_mem_cons.mpr ⟨zyx823k E, fun _ h => absurd h List.not_mem_nil⟩⟩⟩⟩⟩⟩) zyx853e
theorem zyx854e : zrunw zprog2 (zovW [zyx847d, zyx853d, zyx815d]) 100000 (zcutW [] none ((zyx854r, zyh1025), 27, 3300) zyx854p) 27 3300 kX8_heldBy (zkin zyx854r zyh1025) 0 (zargs 0 zyx854a, [], (zyh1024.1, zyh1024.2.1, 0), 0, 0) = true := zall_ok zyg37_ok (k := 20) (a := zbzyx854e) rfl
theorem zyx854 {l : Launch} {D : va_G} {tys : List (ClassId × FieldType)} {o : zO} {z : Nat} (E : zEnv tys) : zKnW l D vwCl tys o z (zXX o z) zTs zprog2 zyx854d :=
  zkn_mk E (fun g => List.forall_mem_cons.mpr ⟨zyx847 (o := zwith o g) E, List.forall_mem_cons.mpr ⟨zyx853 (o := zwith o g) E, List.forall_mem_cons.mpr ⟨zyx815 (o := zwith o g) E, fun _ h => absurd h List.not_mem_nil⟩⟩⟩) (show zget zprog2 229 = some mX8_heldBy from rfl) rfl (by decide) (by decide) (by decide) (by decide) (G := zyx854p) (fun _ h => absurd h List.not_mem_nil) zyx854e
theorem zyx855e : zrunw zprog2 (zovW []) 100000 zcut0 4 480 kX8_oneOf (zkinL zyx855q) 0 (zargs 0 zyx855a, [], (zyh1021.1, zyh1021.2.1, 0), 0, 0) = true := zall_ok zyg37_ok (k := 21) (a := zbzyx855e) rfl
theorem zyx855 {l : Launch} {D : va_G} {tys : List (ClassId × FieldType)} {o : zO} {z : Nat} (E : zEnv tys) : zKnW l D vwCl tys o z (zXX o z) zTs zprog2 zyx855d :=
  zkn_ml E (fun g => fun _ h => absurd h List.not_mem_nil) (show zget zprog2 260 = some mX8_oneOf from rfl) rfl (by decide) (by decide) (by decide) (by decide) zyx855e
theorem zyx856c : zchkX [] zprog2 (zovW [zyx855d]) 100000 kX8_number [] zyx856p zyx856p = true := zall_ok zyg37_ok (k := 22) (a := zbzyx856c) rfl
theorem zyx856e : zrunw zprog2 (zovW [zyx855d]) 100000 (zcutW [] none ((zyx856r, zyh1022), 5, 600) zyx856p) 5 600 kX8_number (zkin zyx856r zyh1022) 0 (zargs 0 zyx856a, [], (zyh1021.1, zyh1021.2.1, 0), 0, 0) = true := zall_ok zyg37_ok (k := 23) (a := zbzyx856e) rfl
theorem zyx856 {l : Launch} {D : va_G} {tys : List (ClassId × FieldType)} {o : zO} {z : Nat} (E : zEnv tys) : zKnW l D vwCl tys o z (zXX o z) zTs zprog2 zyx856d :=
  zkn_mk E (fun g => List.forall_mem_cons.mpr ⟨zyx855 (o := zwith o g) E, fun _ h => absurd h List.not_mem_nil⟩) (show zget zprog2 259 = some mX8_number from rfl) rfl (by decide) (by decide) (by decide) (by decide) (G := zyx856p) (zkn_pt E (fun g => List.forall_mem_cons.mpr ⟨zyx855 (o := zwith o g) E, fun _ h => absurd h List.not_mem_nil⟩) (show zget zprog2 259 = some mX8_number from rfl) (fun _ h => absurd h List.not_mem_nil) zyx856c) zyx856e
theorem zyx857e : zrunw zprog2 (zovW [zyx854d, zyx851d, zyx815d, zyx856d, zyx814d]) 100000 (zcutW [] none ((zyx857r, zyh1022), 28, 3420) zyx857p) 28 3420 k2X8_thing (zkin zyx857r zyh1022) 0 (zargs 0 zyx857a, [], (zyh1021.1, zyh1021.2.1, 0), 0, 0) = true := zall_ok zyg37_ok (k := 24) (a := zbzyx857e) rfl
theorem zyx857 {l : Launch} {D : va_G} {tys : List (ClassId × FieldType)} {o : zO} {z : Nat} (E : zEnv tys) : zKnW l D vwCl tys o z (zXX o z) zTs zprog2 zyx857d :=
  zkn_mk E (fun g => List.forall_mem_cons.mpr ⟨zyx854 (o := zwith o g) E, List.forall_mem_cons.mpr ⟨zyx851 (o := zwith o g) E, List.forall_mem_cons.mpr ⟨zyx815 (o := zwith o g) E, List.forall_mem_cons.mpr ⟨zyx856 (o := zwith o g) E, List.forall_mem_cons.mpr ⟨zyx814 (o := zwith o g) E, fun _ h => absurd h List.not_mem_nil⟩⟩⟩⟩⟩) (show zget zprog2 292 = some m2X8_thing from rfl) rfl (by decide) (by decide) (by decide) (by decide) (G := zyx857p) (fun _ h => absurd h List.not_mem_nil) zyx857e
theorem zyx858c : zchkX [(94, 15)] zprog2 (zovW [zyx851d, zyx857d]) 100000 k2X8_product [zyx852q, zyx846q, zyx840q, zyx834q, zyx828q, zyx822q] [zyx858q] [zyx858q] = true := zall_ok zyg37_ok (k := 25) (a := zbzyx858c) rfl
theorem zyx858k {l : Launch} {D : va_G} {tys : List (ClassId × FieldType)} {o : zO} {z : Nat} (E : zEnv tys) : zPtOk l D vwCl tys o z (zXX o z) zTs m2X8_product zyx858q := zkn_pt E (fun g => List.forall_mem_cons.mpr ⟨zyx851 (o := zwith o g) E, List.forall_mem_cons.mpr ⟨zyx857 (o := zwith o g) E, fun _ h => absurd h List.not_mem_nil⟩⟩) (show zget zprog2 265 = some m2X8_product from rfl) (List.forall_mem_cons.mpr ⟨zyx852k E, List.forall_mem_cons.mpr ⟨zyx846k E, List.forall_mem_cons.mpr ⟨zyx840k E, List.forall_mem_cons.mpr ⟨zyx834k E, List.forall_mem_cons.mpr ⟨zyx828k E, List.forall_mem_cons.mpr ⟨zyx822k E, fun _ h => absurd h List.not_mem_nil⟩⟩⟩⟩⟩⟩) zyx858c _ List.mem_cons_self
theorem zyx858e : zrunw zprog2 (zovW [zyx851d, zyx857d]) 100000 (zcutW [(94, 15)] none ((zyx858r, zyh1022), 29, 3540) [zyx858q, zyx852q, zyx846q, zyx840q, zyx834q, zyx828q, zyx822q]) 29 3540 k2X8_product (zkin zyx858r zyh1022) 0 (zargs 0 zyx858a, [], (zyh1021.1, zyh1021.2.1, 0), 0, 0) = true := zall_ok zyg37_ok (k := 26) (a := zbzyx858e) rfl
theorem zyx858 {l : Launch} {D : va_G} {tys : List (ClassId × FieldType)} {o : zO} {z : Nat} (E : zEnv tys) : zKnW l D vwCl tys o z (zXX o z) zTs zprog2 zyx858d :=
  zkn_mk E (fun g => List.forall_mem_cons.mpr ⟨zyx851 (o := zwith o g) E, List.forall_mem_cons.mpr ⟨zyx857 (o := zwith o g) E, fun _ h => absurd h List.not_mem_nil⟩⟩) (show zget zprog2 265 = some m2X8_product from rfl) rfl (by decide) (by decide) (by decide) (by decide) (G := [zyx858q, zyx852q, zyx846q, zyx840q, zyx834q, zyx828q, zyx822q]) (List.forall_mem_cons.mpr ⟨zyx858k E, List.forall_mem_cons.mpr ⟨zyx852k E, List.forall_mem_cons.mpr ⟨zyx846k E, List.forall_mem_cons.mpr ⟨zyx840k E, List.forall_mem_cons.mpr ⟨zyx834k E, List.forall_mem_cons.mpr ⟨zyx828k E, List.forall_mem_cons.mpr ⟨zyx822k E, fun _ h => absurd h List.not_mem_nil⟩⟩⟩⟩⟩⟩⟩) zyx858e
theorem zyx859c : zchkX [(94, 15)] zprog2 (zovW [zyx852d, zyx858d]) 100000 kX8_sum [zyx853q, zyx847q, zyx841q, zyx835q, zyx829q, zyx823q] [zyx859q] [zyx859q] = true := zall_ok zyg37_ok (k := 27) (a := zbzyx859c) rfl
theorem zyx859k {l : Launch} {D : va_G} {tys : List (ClassId × FieldType)} {o : zO} {z : Nat} (E : zEnv tys) : zPtOk l D vwCl tys o z (zXX o z) zTs mX8_sum zyx859q := zkn_pt E (fun g => List.forall_mem_cons.mpr ⟨zyx852 (o := zwith o g) E, List.forall_mem_cons.mpr ⟨zyx858 (o := zwith o g) E, fun _ h => absurd h List.not_mem_nil⟩⟩) (show zget zprog2 284 = some mX8_sum from rfl) (List.forall_mem_cons.mpr ⟨zyx853k E, List.forall_mem_cons.mpr ⟨zyx847k E, List.forall_mem_cons.mpr ⟨zyx841k E, List.forall_mem_cons.mpr ⟨zyx835k E, List.forall_mem_cons.mpr ⟨zyx829k E, List.forall_mem_cons.mpr ⟨zyx823k E, fun _ h => absurd h List.not_mem_nil⟩⟩⟩⟩⟩⟩) zyx859c _ List.mem_cons_self
theorem zyx859e : zrunw zprog2 (zovW [zyx852d, zyx858d]) 100000 (zcutW [(94, 15)] none ((zyx859r, zyh1022), 30, 3660) [zyx859q, zyx853q, zyx847q, zyx841q, zyx835q, zyx829q, zyx823q]) 30 3660 kX8_sum (zkin zyx859r zyh1022) 0 (zargs 0 zyx859a, [], (zyh1021.1, zyh1021.2.1, 0), 0, 0) = true := zall_ok zyg37_ok (k := 28) (a := zbzyx859e) rfl
theorem zyx859 {l : Launch} {D : va_G} {tys : List (ClassId × FieldType)} {o : zO} {z : Nat} (E : zEnv tys) : zKnW l D vwCl tys o z (zXX o z) zTs zprog2 zyx859d :=
  zkn_mk E (fun g => List.forall_mem_cons.mpr ⟨zyx852 (o := zwith o g) E, List.forall_mem_cons.mpr ⟨zyx858 (o := zwith o g) E, fun _ h => absurd h List.not_mem_nil⟩⟩) (show zget zprog2 284 = some mX8_sum from rfl) rfl (by decide) (by decide) (by decide) (by decide) (G := [zyx859q, zyx853q, zyx847q, zyx841q, zyx835q, zyx829q, zyx823q]) (List.forall_mem_cons.mpr ⟨zyx859k E, List.forall_mem_cons.mpr ⟨zyx853k E, List.forall_mem_cons.mpr ⟨zyx847k E, List.forall_mem_cons.mpr ⟨zyx841k E, List.forall_mem_cons.mpr ⟨zyx835k E, List.forall_mem_cons.mpr ⟨zyx829k E, List.forall_mem_cons.mpr ⟨zyx823k E, fun _ h => absurd h List.not_mem_nil⟩⟩⟩⟩⟩⟩⟩) zyx859e
theorem zyx860e : zrunw zprog2 (zovW [zyx853d, zyx859d, zyx814d]) 100000 (zcutW [] none ((zyx860r, zyh1022), 31, 3780) zyx860p) 31 3780 kX8_heldBy (zkin zyx860r zyh1022) 0 (zargs 0 zyx860a, [], (zyh1021.1, zyh1021.2.1, 0), 0, 0) = true := zall_ok zyg37_ok (k := 29) (a := zbzyx860e) rfl
theorem zyx860 {l : Launch} {D : va_G} {tys : List (ClassId × FieldType)} {o : zO} {z : Nat} (E : zEnv tys) : zKnW l D vwCl tys o z (zXX o z) zTs zprog2 zyx860d :=
  zkn_mk E (fun g => List.forall_mem_cons.mpr ⟨zyx853 (o := zwith o g) E, List.forall_mem_cons.mpr ⟨zyx859 (o := zwith o g) E, List.forall_mem_cons.mpr ⟨zyx814 (o := zwith o g) E, fun _ h => absurd h List.not_mem_nil⟩⟩⟩) (show zget zprog2 229 = some mX8_heldBy from rfl) rfl (by decide) (by decide) (by decide) (by decide) (G := zyx860p) (fun _ h => absurd h List.not_mem_nil) zyx860e
theorem zyx861e : zrunw zprog2 (zovW []) 100000 zcut0 4 480 kX8_oneOf (zkinL zyx861q) 0 (zargs 0 zyx861a, [], (zyh1018.1, zyh1018.2.1, 0), 0, 0) = true := zall_ok zyg37_ok (k := 30) (a := zbzyx861e) rfl
theorem zyx861 {l : Launch} {D : va_G} {tys : List (ClassId × FieldType)} {o : zO} {z : Nat} (E : zEnv tys) : zKnW l D vwCl tys o z (zXX o z) zTs zprog2 zyx861d :=
  zkn_ml E (fun g => fun _ h => absurd h List.not_mem_nil) (show zget zprog2 260 = some mX8_oneOf from rfl) rfl (by decide) (by decide) (by decide) (by decide) zyx861e
theorem zyx862c : zchkX [] zprog2 (zovW [zyx861d]) 100000 kX8_number [] zyx862p zyx862p = true := zall_ok zyg37_ok (k := 31) (a := zbzyx862c) rfl
theorem zyx862e : zrunw zprog2 (zovW [zyx861d]) 100000 (zcutW [] none ((zyx862r, zyh1019), 5, 600) zyx862p) 5 600 kX8_number (zkin zyx862r zyh1019) 0 (zargs 0 zyx862a, [], (zyh1018.1, zyh1018.2.1, 0), 0, 0) = true := zall_ok zyg37_ok (k := 32) (a := zbzyx862e) rfl
theorem zyx862 {l : Launch} {D : va_G} {tys : List (ClassId × FieldType)} {o : zO} {z : Nat} (E : zEnv tys) : zKnW l D vwCl tys o z (zXX o z) zTs zprog2 zyx862d :=
  zkn_mk E (fun g => List.forall_mem_cons.mpr ⟨zyx861 (o := zwith o g) E, fun _ h => absurd h List.not_mem_nil⟩) (show zget zprog2 259 = some mX8_number from rfl) rfl (by decide) (by decide) (by decide) (by decide) (G := zyx862p) (zkn_pt E (fun g => List.forall_mem_cons.mpr ⟨zyx861 (o := zwith o g) E, fun _ h => absurd h List.not_mem_nil⟩) (show zget zprog2 259 = some mX8_number from rfl) (fun _ h => absurd h List.not_mem_nil) zyx862c) zyx862e
theorem zyx863e : zrunw zprog2 (zovW [zyx860d, zyx857d, zyx814d, zyx862d, zyx813d]) 100000 (zcutW [] none ((zyx863r, zyh1019), 32, 3900) zyx863p) 32 3900 k2X8_thing (zkin zyx863r zyh1019) 0 (zargs 0 zyx863a, [], (zyh1018.1, zyh1018.2.1, 0), 0, 0) = true := zall_ok zyg37_ok (k := 33) (a := zbzyx863e) rfl
theorem zyx863 {l : Launch} {D : va_G} {tys : List (ClassId × FieldType)} {o : zO} {z : Nat} (E : zEnv tys) : zKnW l D vwCl tys o z (zXX o z) zTs zprog2 zyx863d :=
  zkn_mk E (fun g => List.forall_mem_cons.mpr ⟨zyx860 (o := zwith o g) E, List.forall_mem_cons.mpr ⟨zyx857 (o := zwith o g) E, List.forall_mem_cons.mpr ⟨zyx814 (o := zwith o g) E, List.forall_mem_cons.mpr ⟨zyx862 (o := zwith o g) E, List.forall_mem_cons.mpr ⟨zyx813 (o := zwith o g) E, fun _ h => absurd h List.not_mem_nil⟩⟩⟩⟩⟩) (show zget zprog2 292 = some m2X8_thing from rfl) rfl (by decide) (by decide) (by decide) (by decide) (G := zyx863p) (fun _ h => absurd h List.not_mem_nil) zyx863e
theorem zyx864c : zchkX [(94, 15)] zprog2 (zovW [zyx857d, zyx863d]) 100000 k2X8_product [zyx858q, zyx852q, zyx846q, zyx840q, zyx834q, zyx828q, zyx822q] [zyx864q] [zyx864q] = true := zall_ok zyg37_ok (k := 34) (a := zbzyx864c) rfl
theorem zyx864k {l : Launch} {D : va_G} {tys : List (ClassId × FieldType)} {o : zO} {z : Nat} (E : zEnv tys) : zPtOk l D vwCl tys o z (zXX o z) zTs m2X8_product zyx864q := zkn_pt E (fun g => List.forall_mem_cons.mpr ⟨zyx857 (o := zwith o g) E, List.forall_mem_cons.mpr ⟨zyx863 (o := zwith o g) E, fun _ h => absurd h List.not_mem_nil⟩⟩) (show zget zprog2 265 = some m2X8_product from rfl) (List.forall_mem_cons.mpr ⟨zyx858k E, List.forall_mem_cons.mpr ⟨zyx852k E, List.forall_mem_cons.mpr ⟨zyx846k E, List.forall_mem_cons.mpr ⟨zyx840k E, List.forall_mem_cons.mpr ⟨zyx834k E, List.forall_mem_cons.mpr ⟨zyx828k E, List.forall_mem_cons.mpr ⟨zyx822k E, fun _ h => absurd h List.not_mem_nil⟩⟩⟩⟩⟩⟩⟩) zyx864c _ List.mem_cons_self
theorem zyx864e : zrunw zprog2 (zovW [zyx857d, zyx863d]) 100000 (zcutW [(94, 15)] none ((zyx864r, zyh1019), 33, 4020) [zyx864q, zyx858q, zyx852q, zyx846q, zyx840q, zyx834q, zyx828q, zyx822q]) 33 4020 k2X8_product (zkin zyx864r zyh1019) 0 (zargs 0 zyx864a, [], (zyh1018.1, zyh1018.2.1, 0), 0, 0) = true := zall_ok zyg37_ok (k := 35) (a := zbzyx864e) rfl
theorem zyx864 {l : Launch} {D : va_G} {tys : List (ClassId × FieldType)} {o : zO} {z : Nat} (E : zEnv tys) : zKnW l D vwCl tys o z (zXX o z) zTs zprog2 zyx864d :=
  zkn_mk E (fun g => List.forall_mem_cons.mpr ⟨zyx857 (o := zwith o g) E, List.forall_mem_cons.mpr ⟨zyx863 (o := zwith o g) E, fun _ h => absurd h List.not_mem_nil⟩⟩) (show zget zprog2 265 = some m2X8_product from rfl) rfl (by decide) (by decide) (by decide) (by decide) (G := [zyx864q, zyx858q, zyx852q, zyx846q, zyx840q, zyx834q, zyx828q, zyx822q]) (List.forall_mem_cons.mpr ⟨zyx864k E, List.forall_mem_cons.mpr ⟨zyx858k E, List.forall_mem_cons.mpr ⟨zyx852k E, List.forall_mem_cons.mpr ⟨zyx846k E, List.forall_mem_cons.mpr ⟨zyx840k E, List.forall_mem_cons.mpr ⟨zyx834k E, List.forall_mem_cons.mpr ⟨zyx828k E, List.forall_mem_cons.mpr ⟨zyx822k E, fun _ h => absurd h List.not_mem_nil⟩⟩⟩⟩⟩⟩⟩⟩) zyx864e

