noncomputable def zyc462 : zC := .inr (8, [zyv114, zyv15, zyv15, zyv15, zyv114, zyv114, zyv114, zyv114, zyv15, zyv114, zyv15, zyv15, zyv126, zyv17, zyv315, zyv353, zyv17, zyv114, zyv114, zyv114, zyv15, zyv36, zyv129, zyv114, zyv15, zyv114, zyv114, zyv15, zyv15, zyv114, zyv114, zyv114, zyv114, zyv114, zyv114, zyv114, zyv114, zyv114, zyv114, zyv15, zyv114, zyv114, zyv114, zyv114, zyv15, zyv15, zyv15, zyv15, zyv114, zyv114, zyv114])
noncomputable def zyr395 : List zC := [zyc60, zyc60, zyc60, zyc69, zyc10, zyc10, zyc10, zyc12, zyc70, zyc8, zyc8, zyc70, zyc8, zyc8, zyc462, zyc52]
noncomputable def zyh466 : zH := (126, [zyr9, zyr10, zyr11, zyr12, zyr13, zyr395, zyr6, zyr7], zym9)
noncomputable def zyc463 : zC := .inr (8, [zyv114, zyv15, zyv15, zyv15, zyv114, zyv114, zyv114, zyv114, zyv15, zyv114, zyv15, zyv15, zyv126, zyv17, zyv315, zyv352, zyv17, zyv114, zyv114, zyv114, zyv15, zyv36, zyv129, zyv114, zyv15, zyv114, zyv114, zyv15, zyv15, zyv114, zyv114, zyv114, zyv114, zyv114, zyv114, zyv114, zyv114, zyv114, zyv114, zyv15, zyv114, zyv114, zyv114, zyv114, zyv15, zyv15, zyv15, zyv15, zyv114, zyv114, zyv114])
noncomputable def zyr396 : List zC := [zyc60, zyc60, zyc60, zyc69, zyc10, zyc10, zyc10, zyc12, zyc70, zyc8, zyc8, zyc70, zyc8, zyc8, zyc463, zyc52]
noncomputable def zyh467 : zH := (126, [zyr9, zyr10, zyr11, zyr12, zyr13, zyr396, zyr6, zyr7], zym9)
noncomputable def zyc464 : zC := .inr (8, [zyv114, zyv15, zyv15, zyv15, zyv114, zyv114, zyv114, zyv114, zyv15, zyv114, zyv15, zyv15, zyv126, zyv17, zyv315, zyv351, zyv17, zyv114, zyv114, zyv114, zyv15, zyv36, zyv129, zyv114, zyv15, zyv114, zyv114, zyv15, zyv15, zyv114, zyv114, zyv114, zyv114, zyv114, zyv114, zyv114, zyv114, zyv114, zyv114, zyv15, zyv114, zyv114, zyv114, zyv114, zyv15, zyv15, zyv15, zyv15, zyv114, zyv114, zyv114])
noncomputable def zyr397 : List zC := [zyc60, zyc60, zyc60, zyc69, zyc10, zyc10, zyc10, zyc12, zyc70, zyc8, zyc8, zyc70, zyc8, zyc8, zyc464, zyc52]
noncomputable def zyh468 : zH := (126, [zyr9, zyr10, zyr11, zyr12, zyr13, zyr397, zyr6, zyr7], zym9)
noncomputable def zyc465 : zC := .inr (8, [zyv114, zyv15, zyv15, zyv15, zyv114, zyv114, zyv114, zyv114, zyv15, zyv114, zyv15, zyv15, zyv126, zyv17, zyv315, zyv350, zyv17, zyv114, zyv114, zyv114, zyv15, zyv36, zyv129, zyv114, zyv15, zyv114, zyv114, zyv15, zyv15, zyv114, zyv114, zyv114, zyv114, zyv114, zyv114, zyv114, zyv114, zyv114, zyv114, zyv15, zyv114, zyv114, zyv114, zyv114, zyv15, zyv15, zyv15, zyv15, zyv114, zyv114, zyv114])
noncomputable def zyr398 : List zC := [zyc60, zyc60, zyc60, zyc69, zyc10, zyc10, zyc10, zyc12, zyc70, zyc8, zyc8, zyc70, zyc8, zyc8, zyc465, zyc52]
noncomputable def zyh469 : zH := (126, [zyr9, zyr10, zyr11, zyr12, zyr13, zyr398, zyr6, zyr7], zym9)
/-! X8_product ((('r', 102), 40, 36),) -/
noncomputable def zyx366a : List zAV := [.inr (.inr (.inl 94)), .inl ((.ofNat 0, .ofNat 4), none)]
def zyx366r : Option zAV := some (.inl ((.negSucc 2147483647, .ofNat 2147483647), none))
noncomputable def zyx366q : zPw := ((6, ([(0, .inr (.inr (.inl 94))), (1, .inl ((.ofNat 0, .ofNat 4), some (1, .ofNat 0))), (2, .inl ((.negSucc 2147483647, .ofNat 2147483647), some (2, .ofNat 0)))], [], zyh449, 0, 0), [], 0), (zyx366r, zyh449), 21, 2580)
noncomputable def zbzyx366c : Bool := zchkX [(94, 15)] zprog2 (zovW [zyx359d, zyx365d]) 100000 k2X8_product [zyx360q, zyx354q, zyx348q, zyx342q] [zyx366q] [zyx366q]
noncomputable def zyx366d : zKw := (265, 5, 21, 2580, zyx366a, zyh448, [(zyx366r, zyh449)])
noncomputable def zbzyx366e : Bool := zrunw zprog2 (zovW [zyx359d, zyx365d]) 100000 (zcutW [(94, 15)] none ((zyx366r, zyh449), 21, 2580) [zyx366q, zyx360q, zyx354q, zyx348q, zyx342q]) 21 2580 k2X8_product (zkin zyx366r zyh449) 0 (zargs 0 zyx366a, [], (zyh448.1, zyh448.2.1, 0), 0, 0)
/-! X8_sum ((('r', 102), 40, 36),) -/
noncomputable def zyx367a : List zAV := [.inr (.inr (.inl 94)), .inl ((.ofNat 1, .ofNat 4), none)]
def zyx367r : Option zAV := some (.inl ((.negSucc 2147483647, .ofNat 2147483647), none))
noncomputable def zyx367q : zPw := ((6, ([(0, .inr (.inr (.inl 94))), (1, .inl ((.ofNat 0, .ofNat 4), some (1, .ofNat 0))), (2, .inl ((.negSucc 2147483647, .ofNat 2147483647), some (2, .ofNat 0)))], [], zyh449, 0, 0), [], 0), (zyx367r, zyh449), 22, 2700)
noncomputable def zbzyx367c : Bool := zchkX [(94, 15)] zprog2 (zovW [zyx360d, zyx366d]) 100000 kX8_sum [zyx361q, zyx355q, zyx349q, zyx343q] [zyx367q] [zyx367q]
noncomputable def zyx367d : zKw := (284, 5, 22, 2700, zyx367a, zyh448, [(zyx367r, zyh449)])
noncomputable def zbzyx367e : Bool := zrunw zprog2 (zovW [zyx360d, zyx366d]) 100000 (zcutW [(94, 15)] none ((zyx367r, zyh449), 22, 2700) [zyx367q, zyx361q, zyx355q, zyx349q, zyx343q]) 22 2700 kX8_sum (zkin zyx367r zyh449) 0 (zargs 0 zyx367a, [], (zyh448.1, zyh448.2.1, 0), 0, 0)
/-! X8_heldBy -/
noncomputable def zyx368a : List zAV := [.inr (.inr (.inl 94)), .inl ((.ofNat 1, .ofNat 4), none)]
def zyx368r : Option zAV := some (.inl ((.negSucc 2147483647, .ofNat 2147483647), none))
noncomputable def zyx368p : List zPw := []
noncomputable def zyx368d : zKw := (229, 3, 23, 2820, zyx368a, zyh448, [(zyx368r, zyh449)])
noncomputable def zbzyx368e : Bool := zrunw zprog2 (zovW [zyx361d, zyx367d, zyx336d]) 100000 (zcutW [] none ((zyx368r, zyh449), 23, 2820) zyx368p) 23 2820 kX8_heldBy (zkin zyx368r zyh449) 0 (zargs 0 zyx368a, [], (zyh448.1, zyh448.2.1, 0), 0, 0)
/-! X8_oneOf -/
noncomputable def zyx369a : List zAV := [zyv316, zyv358, zyv359]
noncomputable def zyx369q : List (Option zAV × zH) := [(some (.inl ((.ofNat 0, .ofNat 0), none)), zyh466), (some (.inl ((.negSucc 175, .ofNat 79), none)), zyh447)]
noncomputable def zyx369d : zKw := (260, 3, 4, 480, zyx369a, zyh445, zyx369q)
noncomputable def zbzyx369e : Bool := zrunw zprog2 (zovW []) 100000 zcut0 4 480 kX8_oneOf (zkinL zyx369q) 0 (zargs 0 zyx369a, [], (zyh445.1, zyh445.2.1, 0), 0, 0)
/-! X8_number -/
noncomputable def zyx370a : List zAV := [.inr (.inr (.inl 94)), .inl ((.ofNat 3, .ofNat 3), none)]
def zyx370r : Option zAV := some (.inl ((.negSucc 2147483647, .ofNat 2147483647), none))
noncomputable def zyx370p : List zPw := [((11, ([(0, .inr (.inr (.inl 94))), (1, .inl ((.ofNat 3, .ofNat 3), some (1, .ofNat 0))), (2, .inl ((.negSucc 2147483647, .ofNat 2147483647), some (2, .ofNat 0))), (3, .inl ((.ofNat 1, .ofNat 3), some (3, .ofNat 0)))], [], zyh446, 0, 0), [(3, .negSucc 1)], .ofNat 7), (zyx370r, zyh446), 5, 600)]
noncomputable def zyx370d : zKw := (259, 4, 5, 600, zyx370a, zyh445, [(zyx370r, zyh446)])
noncomputable def zbzyx370c : Bool := zchkX [] zprog2 (zovW [zyx369d]) 100000 kX8_number [] zyx370p zyx370p
noncomputable def zbzyx370e : Bool := zrunw zprog2 (zovW [zyx369d]) 100000 (zcutW [] none ((zyx370r, zyh446), 5, 600) zyx370p) 5 600 kX8_number (zkin zyx370r zyh446) 0 (zargs 0 zyx370a, [], (zyh445.1, zyh445.2.1, 0), 0, 0)
/-! X8_thing -/
noncomputable def zyx371a : List zAV := [.inr (.inr (.inl 94)), .inl ((.ofNat 0, .ofNat 4), none)]
def zyx371r : Option zAV := some (.inl ((.negSucc 2147483647, .ofNat 2147483647), none))
noncomputable def zyx371p : List zPw := []
noncomputable def zyx371d : zKw := (292, 4, 24, 2940, zyx371a, zyh445, [(zyx371r, zyh446)])
noncomputable def zbzyx371e : Bool := zrunw zprog2 (zovW [zyx368d, zyx365d, zyx336d, zyx370d, zyx335d]) 100000 (zcutW [] none ((zyx371r, zyh446), 24, 2940) zyx371p) 24 2940 k2X8_thing (zkin zyx371r zyh446) 0 (zargs 0 zyx371a, [], (zyh445.1, zyh445.2.1, 0), 0, 0)
/-! X8_product ((('r', 102), 40, 35),) -/
noncomputable def zyx372a : List zAV := [.inr (.inr (.inl 94)), .inl ((.ofNat 0, .ofNat 4), none)]
def zyx372r : Option zAV := some (.inl ((.negSucc 2147483647, .ofNat 2147483647), none))
noncomputable def zyx372q : zPw := ((6, ([(0, .inr (.inr (.inl 94))), (1, .inl ((.ofNat 0, .ofNat 4), some (1, .ofNat 0))), (2, .inl ((.negSucc 2147483647, .ofNat 2147483647), some (2, .ofNat 0)))], [], zyh446, 0, 0), [], 0), (zyx372r, zyh446), 25, 3060)
noncomputable def zbzyx372c : Bool := zchkX [(94, 15)] zprog2 (zovW [zyx365d, zyx371d]) 100000 k2X8_product [zyx366q, zyx360q, zyx354q, zyx348q, zyx342q] [zyx372q] [zyx372q]
noncomputable def zyx372d : zKw := (265, 5, 25, 3060, zyx372a, zyh445, [(zyx372r, zyh446)])
noncomputable def zbzyx372e : Bool := zrunw zprog2 (zovW [zyx365d, zyx371d]) 100000 (zcutW [(94, 15)] none ((zyx372r, zyh446), 25, 3060) [zyx372q, zyx366q, zyx360q, zyx354q, zyx348q, zyx342q]) 25 3060 k2X8_product (zkin zyx372r zyh446) 0 (zargs 0 zyx372a, [], (zyh445.1, zyh445.2.1, 0), 0, 0)
/-! X8_sum ((('r', 102), 40, 35),) -/
noncomputable def zyx373a : List zAV := [.inr (.inr (.inl 94)), .inl ((.ofNat 1, .ofNat 4), none)]
def zyx373r : Option zAV := some (.inl ((.negSucc 2147483647, .ofNat 2147483647), none))
noncomputable def zyx373q : zPw := ((6, ([(0, .inr (.inr (.inl 94))), (1, .inl ((.ofNat 0, .ofNat 4), some (1, .ofNat 0))), (2, .inl ((.negSucc 2147483647, .ofNat 2147483647), some (2, .ofNat 0)))], [], zyh446, 0, 0), [], 0), (zyx373r, zyh446), 26, 3180)
noncomputable def zbzyx373c : Bool := zchkX [(94, 15)] zprog2 (zovW [zyx366d, zyx372d]) 100000 kX8_sum [zyx367q, zyx361q, zyx355q, zyx349q, zyx343q] [zyx373q] [zyx373q]
noncomputable def zyx373d : zKw := (284, 5, 26, 3180, zyx373a, zyh445, [(zyx373r, zyh446)])
noncomputable def zbzyx373e : Bool := zrunw zprog2 (zovW [zyx366d, zyx372d]) 100000 (zcutW [(94, 15)] none ((zyx373r, zyh446), 26, 3180) [zyx373q, zyx367q, zyx361q, zyx355q, zyx349q, zyx343q]) 26 3180 kX8_sum (zkin zyx373r zyh446) 0 (zargs 0 zyx373a, [], (zyh445.1, zyh445.2.1, 0), 0, 0)
/-! X8_heldBy -/
noncomputable def zyx374a : List zAV := [.inr (.inr (.inl 94)), .inl ((.ofNat 1, .ofNat 4), none)]
def zyx374r : Option zAV := some (.inl ((.negSucc 2147483647, .ofNat 2147483647), none))
noncomputable def zyx374p : List zPw := []
noncomputable def zyx374d : zKw := (229, 3, 27, 3300, zyx374a, zyh445, [(zyx374r, zyh446)])
noncomputable def zbzyx374e : Bool := zrunw zprog2 (zovW [zyx367d, zyx373d, zyx335d]) 100000 (zcutW [] none ((zyx374r, zyh446), 27, 3300) zyx374p) 27 3300 kX8_heldBy (zkin zyx374r zyh446) 0 (zargs 0 zyx374a, [], (zyh445.1, zyh445.2.1, 0), 0, 0)
/-! X8_oneOf -/
noncomputable def zyx375a : List zAV := [zyv316, zyv358, zyv359]
noncomputable def zyx375q : List (Option zAV × zH) := [(some (.inl ((.ofNat 0, .ofNat 0), none)), zyh467), (some (.inl ((.negSucc 175, .ofNat 79), none)), zyh444)]
noncomputable def zyx375d : zKw := (260, 3, 4, 480, zyx375a, zyh442, zyx375q)
noncomputable def zbzyx375e : Bool := zrunw zprog2 (zovW []) 100000 zcut0 4 480 kX8_oneOf (zkinL zyx375q) 0 (zargs 0 zyx375a, [], (zyh442.1, zyh442.2.1, 0), 0, 0)
/-! X8_number -/
noncomputable def zyx376a : List zAV := [.inr (.inr (.inl 94)), .inl ((.ofNat 3, .ofNat 3), none)]
def zyx376r : Option zAV := some (.inl ((.negSucc 2147483647, .ofNat 2147483647), none))
noncomputable def zyx376p : List zPw := [((11, ([(0, .inr (.inr (.inl 94))), (1, .inl ((.ofNat 3, .ofNat 3), some (1, .ofNat 0))), (2, .inl ((.negSucc 2147483647, .ofNat 2147483647), some (2, .ofNat 0))), (3, .inl ((.ofNat 1, .ofNat 3), some (3, .ofNat 0)))], [], zyh443, 0, 0), [(3, .negSucc 1)], .ofNat 7), (zyx376r, zyh443), 5, 600)]
noncomputable def zyx376d : zKw := (259, 4, 5, 600, zyx376a, zyh442, [(zyx376r, zyh443)])
noncomputable def zbzyx376c : Bool := zchkX [] zprog2 (zovW [zyx375d]) 100000 kX8_number [] zyx376p zyx376p
noncomputable def zbzyx376e : Bool := zrunw zprog2 (zovW [zyx375d]) 100000 (zcutW [] none ((zyx376r, zyh443), 5, 600) zyx376p) 5 600 kX8_number (zkin zyx376r zyh443) 0 (zargs 0 zyx376a, [], (zyh442.1, zyh442.2.1, 0), 0, 0)
/-! X8_thing -/
noncomputable def zyx377a : List zAV := [.inr (.inr (.inl 94)), .inl ((.ofNat 0, .ofNat 4), none)]
def zyx377r : Option zAV := some (.inl ((.negSucc 2147483647, .ofNat 2147483647), none))
noncomputable def zyx377p : List zPw := []
noncomputable def zyx377d : zKw := (292, 4, 28, 3420, zyx377a, zyh442, [(zyx377r, zyh443)])
noncomputable def zbzyx377e : Bool := zrunw zprog2 (zovW [zyx374d, zyx371d, zyx335d, zyx376d, zyx334d]) 100000 (zcutW [] none ((zyx377r, zyh443), 28, 3420) zyx377p) 28 3420 k2X8_thing (zkin zyx377r zyh443) 0 (zargs 0 zyx377a, [], (zyh442.1, zyh442.2.1, 0), 0, 0)
/-! X8_product ((('r', 102), 40, 34),) -/
noncomputable def zyx378a : List zAV := [.inr (.inr (.inl 94)), .inl ((.ofNat 0, .ofNat 4), none)]
def zyx378r : Option zAV := some (.inl ((.negSucc 2147483647, .ofNat 2147483647), none))
noncomputable def zyx378q : zPw := ((6, ([(0, .inr (.inr (.inl 94))), (1, .inl ((.ofNat 0, .ofNat 4), some (1, .ofNat 0))), (2, .inl ((.negSucc 2147483647, .ofNat 2147483647), some (2, .ofNat 0)))], [], zyh443, 0, 0), [], 0), (zyx378r, zyh443), 29, 3540)
noncomputable def zbzyx378c : Bool := zchkX [(94, 15)] zprog2 (zovW [zyx371d, zyx377d]) 100000 k2X8_product [zyx372q, zyx366q, zyx360q, zyx354q, zyx348q, zyx342q] [zyx378q] [zyx378q]
noncomputable def zyx378d : zKw := (265, 5, 29, 3540, zyx378a, zyh442, [(zyx378r, zyh443)])
noncomputable def zbzyx378e : Bool := zrunw zprog2 (zovW [zyx371d, zyx377d]) 100000 (zcutW [(94, 15)] none ((zyx378r, zyh443), 29, 3540) [zyx378q, zyx372q, zyx366q, zyx360q, zyx354q, zyx348q, zyx342q]) 29 3540 k2X8_product (zkin zyx378r zyh443) 0 (zargs 0 zyx378a, [], (zyh442.1, zyh442.2.1, 0), 0, 0)
/-! X8_sum ((('r', 102), 40, 34),) -/
noncomputable def zyx379a : List zAV := [.inr (.inr (.inl 94)), .inl ((.ofNat 1, .ofNat 4), none)]
def zyx379r : Option zAV := some (.inl ((.negSucc 2147483647, .ofNat 2147483647), none))
noncomputable def zyx379q : zPw := ((6, ([(0, .inr (.inr (.inl 94))), (1, .inl ((.ofNat 0, .ofNat 4), some (1, .ofNat 0))), (2, .inl ((.negSucc 2147483647, .ofNat 2147483647), some (2, .ofNat 0)))], [], zyh443, 0, 0), [], 0), (zyx379r, zyh443), 30, 3660)
noncomputable def zbzyx379c : Bool := zchkX [(94, 15)] zprog2 (zovW [zyx372d, zyx378d]) 100000 kX8_sum [zyx373q, zyx367q, zyx361q, zyx355q, zyx349q, zyx343q] [zyx379q] [zyx379q]
noncomputable def zyx379d : zKw := (284, 5, 30, 3660, zyx379a, zyh442, [(zyx379r, zyh443)])
noncomputable def zbzyx379e : Bool := zrunw zprog2 (zovW [zyx372d, zyx378d]) 100000 (zcutW [(94, 15)] none ((zyx379r, zyh443), 30, 3660) [zyx379q, zyx373q, zyx367q, zyx361q, zyx355q, zyx349q, zyx343q]) 30 3660 kX8_sum (zkin zyx379r zyh443) 0 (zargs 0 zyx379a, [], (zyh442.1, zyh442.2.1, 0), 0, 0)
/-! X8_heldBy -/
noncomputable def zyx380a : List zAV := [.inr (.inr (.inl 94)), .inl ((.ofNat 1, .ofNat 4), none)]
def zyx380r : Option zAV := some (.inl ((.negSucc 2147483647, .ofNat 2147483647), none))
noncomputable def zyx380p : List zPw := []
noncomputable def zyx380d : zKw := (229, 3, 31, 3780, zyx380a, zyh442, [(zyx380r, zyh443)])
noncomputable def zbzyx380e : Bool := zrunw zprog2 (zovW [zyx373d, zyx379d, zyx334d]) 100000 (zcutW [] none ((zyx380r, zyh443), 31, 3780) zyx380p) 31 3780 kX8_heldBy (zkin zyx380r zyh443) 0 (zargs 0 zyx380a, [], (zyh442.1, zyh442.2.1, 0), 0, 0)
/-! X8_oneOf -/
noncomputable def zyx381a : List zAV := [zyv316, zyv358, zyv359]
noncomputable def zyx381q : List (Option zAV × zH) := [(some (.inl ((.ofNat 0, .ofNat 0), none)), zyh468), (some (.inl ((.negSucc 175, .ofNat 79), none)), zyh441)]
noncomputable def zyx381d : zKw := (260, 3, 4, 480, zyx381a, zyh439, zyx381q)
noncomputable def zbzyx381e : Bool := zrunw zprog2 (zovW []) 100000 zcut0 4 480 kX8_oneOf (zkinL zyx381q) 0 (zargs 0 zyx381a, [], (zyh439.1, zyh439.2.1, 0), 0, 0)
/-! X8_number -/
noncomputable def zyx382a : List zAV := [.inr (.inr (.inl 94)), .inl ((.ofNat 3, .ofNat 3), none)]
def zyx382r : Option zAV := some (.inl ((.negSucc 2147483647, .ofNat 2147483647), none))
noncomputable def zyx382p : List zPw := [((11, ([(0, .inr (.inr (.inl 94))), (1, .inl ((.ofNat 3, .ofNat 3), some (1, .ofNat 0))), (2, .inl ((.negSucc 2147483647, .ofNat 2147483647), some (2, .ofNat 0))), (3, .inl ((.ofNat 1, .ofNat 3), some (3, .ofNat 0)))], [], zyh440, 0, 0), [(3, .negSucc 1)], .ofNat 7), (zyx382r, zyh440), 5, 600)]
noncomputable def zyx382d : zKw := (259, 4, 5, 600, zyx382a, zyh439, [(zyx382r, zyh440)])
noncomputable def zbzyx382c : Bool := zchkX [] zprog2 (zovW [zyx381d]) 100000 kX8_number [] zyx382p zyx382p
noncomputable def zbzyx382e : Bool := zrunw zprog2 (zovW [zyx381d]) 100000 (zcutW [] none ((zyx382r, zyh440), 5, 600) zyx382p) 5 600 kX8_number (zkin zyx382r zyh440) 0 (zargs 0 zyx382a, [], (zyh439.1, zyh439.2.1, 0), 0, 0)
/-! X8_thing -/
noncomputable def zyx383a : List zAV := [.inr (.inr (.inl 94)), .inl ((.ofNat 0, .ofNat 4), none)]
def zyx383r : Option zAV := some (.inl ((.negSucc 2147483647, .ofNat 2147483647), none))
noncomputable def zyx383p : List zPw := []
noncomputable def zyx383d : zKw := (292, 4, 32, 3900, zyx383a, zyh439, [(zyx383r, zyh440)])
noncomputable def zbzyx383e : Bool := zrunw zprog2 (zovW [zyx380d, zyx377d, zyx334d, zyx382d, zyx333d]) 100000 (zcutW [] none ((zyx383r, zyh440), 32, 3900) zyx383p) 32 3900 k2X8_thing (zkin zyx383r zyh440) 0 (zargs 0 zyx383a, [], (zyh439.1, zyh439.2.1, 0), 0, 0)
/-! X8_product ((('r', 102), 40, 33),) -/
noncomputable def zyx384a : List zAV := [.inr (.inr (.inl 94)), .inl ((.ofNat 0, .ofNat 4), none)]
def zyx384r : Option zAV := some (.inl ((.negSucc 2147483647, .ofNat 2147483647), none))
noncomputable def zyx384q : zPw := ((6, ([(0, .inr (.inr (.inl 94))), (1, .inl ((.ofNat 0, .ofNat 4), some (1, .ofNat 0))), (2, .inl ((.negSucc 2147483647, .ofNat 2147483647), some (2, .ofNat 0)))], [], zyh440, 0, 0), [], 0), (zyx384r, zyh440), 33, 4020)
noncomputable def zbzyx384c : Bool := zchkX [(94, 15)] zprog2 (zovW [zyx377d, zyx383d]) 100000 k2X8_product [zyx378q, zyx372q, zyx366q, zyx360q, zyx354q, zyx348q, zyx342q] [zyx384q] [zyx384q]
noncomputable def zyx384d : zKw := (265, 5, 33, 4020, zyx384a, zyh439, [(zyx384r, zyh440)])
noncomputable def zbzyx384e : Bool := zrunw zprog2 (zovW [zyx377d, zyx383d]) 100000 (zcutW [(94, 15)] none ((zyx384r, zyh440), 33, 4020) [zyx384q, zyx378q, zyx372q, zyx366q, zyx360q, zyx354q, zyx348q, zyx342q]) 33 4020 k2X8_product (zkin zyx384r zyh440) 0 (zargs 0 zyx384a, [], (zyh439.1, zyh439.2.1, 0), 0, 0)
/-! X8_sum ((('r', 102), 40, 33),) -/
noncomputable def zyx385a : List zAV := [.inr (.inr (.inl 94)), .inl ((.ofNat 1, .ofNat 4), none)]
def zyx385r : Option zAV := some (.inl ((.negSucc 2147483647, .ofNat 2147483647), none))
noncomputable def zyx385q : zPw := ((6, ([(0, .inr (.inr (.inl 94))), (1, .inl ((.ofNat 0, .ofNat 4), some (1, .ofNat 0))), (2, .inl ((.negSucc 2147483647, .ofNat 2147483647), some (2, .ofNat 0)))], [], zyh440, 0, 0), [], 0), (zyx385r, zyh440), 34, 4140)
noncomputable def zbzyx385c : Bool := zchkX [(94, 15)] zprog2 (zovW [zyx378d, zyx384d]) 100000 kX8_sum [zyx379q, zyx373q, zyx367q, zyx361q, zyx355q, zyx349q, zyx343q] [zyx385q] [zyx385q]
noncomputable def zyx385d : zKw := (284, 5, 34, 4140, zyx385a, zyh439, [(zyx385r, zyh440)])
noncomputable def zbzyx385e : Bool := zrunw zprog2 (zovW [zyx378d, zyx384d]) 100000 (zcutW [(94, 15)] none ((zyx385r, zyh440), 34, 4140) [zyx385q, zyx379q, zyx373q, zyx367q, zyx361q, zyx355q, zyx349q, zyx343q]) 34 4140 kX8_sum (zkin zyx385r zyh440) 0 (zargs 0 zyx385a, [], (zyh439.1, zyh439.2.1, 0), 0, 0)
/-! X8_heldBy -/
noncomputable def zyx386a : List zAV := [.inr (.inr (.inl 94)), .inl ((.ofNat 1, .ofNat 4), none)]
def zyx386r : Option zAV := some (.inl ((.negSucc 2147483647, .ofNat 2147483647), none))
noncomputable def zyx386p : List zPw := []
noncomputable def zyx386d : zKw := (229, 3, 35, 4260, zyx386a, zyh439, [(zyx386r, zyh440)])
noncomputable def zbzyx386e : Bool := zrunw zprog2 (zovW [zyx379d, zyx385d, zyx333d]) 100000 (zcutW [] none ((zyx386r, zyh440), 35, 4260) zyx386p) 35 4260 kX8_heldBy (zkin zyx386r zyh440) 0 (zargs 0 zyx386a, [], (zyh439.1, zyh439.2.1, 0), 0, 0)
/-! X8_oneOf -/
noncomputable def zyx387a : List zAV := [zyv316, zyv358, zyv359]
noncomputable def zyx387q : List (Option zAV × zH) := [(some (.inl ((.ofNat 0, .ofNat 0), none)), zyh469), (some (.inl ((.negSucc 175, .ofNat 79), none)), zyh438)]
noncomputable def zyx387d : zKw := (260, 3, 4, 480, zyx387a, zyh436, zyx387q)
noncomputable def zbzyx387e : Bool := zrunw zprog2 (zovW []) 100000 zcut0 4 480 kX8_oneOf (zkinL zyx387q) 0 (zargs 0 zyx387a, [], (zyh436.1, zyh436.2.1, 0), 0, 0)
/-! X8_number -/
noncomputable def zyx388a : List zAV := [.inr (.inr (.inl 94)), .inl ((.ofNat 3, .ofNat 3), none)]
def zyx388r : Option zAV := some (.inl ((.negSucc 2147483647, .ofNat 2147483647), none))
noncomputable def zyx388p : List zPw := [((11, ([(0, .inr (.inr (.inl 94))), (1, .inl ((.ofNat 3, .ofNat 3), some (1, .ofNat 0))), (2, .inl ((.negSucc 2147483647, .ofNat 2147483647), some (2, .ofNat 0))), (3, .inl ((.ofNat 1, .ofNat 3), some (3, .ofNat 0)))], [], zyh437, 0, 0), [(3, .negSucc 1)], .ofNat 7), (zyx388r, zyh437), 5, 600)]
noncomputable def zyx388d : zKw := (259, 4, 5, 600, zyx388a, zyh436, [(zyx388r, zyh437)])
noncomputable def zbzyx388c : Bool := zchkX [] zprog2 (zovW [zyx387d]) 100000 kX8_number [] zyx388p zyx388p
noncomputable def zbzyx388e : Bool := zrunw zprog2 (zovW [zyx387d]) 100000 (zcutW [] none ((zyx388r, zyh437), 5, 600) zyx388p) 5 600 kX8_number (zkin zyx388r zyh437) 0 (zargs 0 zyx388a, [], (zyh436.1, zyh436.2.1, 0), 0, 0)
/-! X8_thing -/
noncomputable def zyx389a : List zAV := [.inr (.inr (.inl 94)), .inl ((.ofNat 0, .ofNat 4), none)]
def zyx389r : Option zAV := some (.inl ((.negSucc 2147483647, .ofNat 2147483647), none))
noncomputable def zyx389p : List zPw := []
noncomputable def zyx389d : zKw := (292, 4, 36, 4380, zyx389a, zyh436, [(zyx389r, zyh437)])
noncomputable def zbzyx389e : Bool := zrunw zprog2 (zovW [zyx386d, zyx383d, zyx333d, zyx388d, zyx332d]) 100000 (zcutW [] none ((zyx389r, zyh437), 36, 4380) zyx389p) 36 4380 k2X8_thing (zkin zyx389r zyh437) 0 (zargs 0 zyx389a, [], (zyh436.1, zyh436.2.1, 0), 0, 0)
noncomputable def zyg17 : List Bool := [zbzyx366c, zbzyx366e, zbzyx367c, zbzyx367e, zbzyx368e, zbzyx369e, zbzyx370c, zbzyx370e, zbzyx371e, zbzyx372c, zbzyx372e, zbzyx373c, zbzyx373e, zbzyx374e, zbzyx375e, zbzyx376c, zbzyx376e, zbzyx377e, zbzyx378c, zbzyx378e, zbzyx379c, zbzyx379e, zbzyx380e, zbzyx381e, zbzyx382c, zbzyx382e, zbzyx383e, zbzyx384c, zbzyx384e, zbzyx385c, zbzyx385e, zbzyx386e, zbzyx387e, zbzyx388c, zbzyx388e, zbzyx389e]
set_option maxRecDepth 100000 in
theorem zyg17_ok : zall (fun b => b) zyg17 = true := by decide +kernel
theorem zyx366c : zchkX [(94, 15)] zprog2 (zovW [zyx359d, zyx365d]) 100000 k2X8_product [zyx360q, zyx354q, zyx348q, zyx342q] [zyx366q] [zyx366q] = true := zall_ok zyg17_ok (k := 0) (a := zbzyx366c) rfl
theorem zyx366k {l : Launch} {D : va_G} {tys : List (ClassId × FieldType)} {o : zO} {z : Nat} (E : zEnv tys) : zPtOk l D vwCl tys o z (zXX o z) zTs m2X8_product zyx366q := zkn_pt E (fun g => List.forall_mem_cons.mpr ⟨zyx359 (o := zwith o g) E, List.forall_mem_cons.mpr ⟨zyx365 (o := zwith o g) E, fun _ h => absurd h List.not_mem_nil⟩⟩) (show zget zprog2 265 = some m2X8_product from rfl) (List.forall_mem_cons.mpr ⟨zyx360k E, List.forall_mem_cons.mpr ⟨zyx354k E, List.forall_mem_cons.mpr ⟨zyx348k E, List.forall_mem_cons.mpr ⟨zyx342k E, fun _ h => absurd h List.not_mem_nil⟩⟩⟩⟩) zyx366c _ List.mem_cons_self
theorem zyx366e : zrunw zprog2 (zovW [zyx359d, zyx365d]) 100000 (zcutW [(94, 15)] none ((zyx366r, zyh449), 21, 2580) [zyx366q, zyx360q, zyx354q, zyx348q, zyx342q]) 21 2580 k2X8_product (zkin zyx366r zyh449) 0 (zargs 0 zyx366a, [], (zyh448.1, zyh448.2.1, 0), 0, 0) = true := zall_ok zyg17_ok (k := 1) (a := zbzyx366e) rfl
theorem zyx366 {l : Launch} {D : va_G} {tys : List (ClassId × FieldType)} {o : zO} {z : Nat} (E : zEnv tys) : zKnW l D vwCl tys o z (zXX o z) zTs zprog2 zyx366d :=
  zkn_mk E (fun g => List.forall_mem_cons.mpr ⟨zyx359 (o := zwith o g) E, List.forall_mem_cons.mpr ⟨zyx365 (o := zwith o g) E, fun _ h => absurd h List.not_mem_nil⟩⟩) (show zget zprog2 265 = some m2X8_product from rfl) rfl (by decide) (by decide) (by decide) (by decide) (G := [zyx366q, zyx360q, zyx354q, zyx348q, zyx342q]) (List.forall_mem_cons.mpr ⟨zyx366k E, List.forall_mem_cons.mpr ⟨zyx360k E, List.forall_mem_cons.mpr ⟨zyx354k E, List.forall_mem_cons.mpr ⟨zyx348k E, List.forall_mem_cons.mpr ⟨zyx342k E, fun _ h => absurd h List.not_mem_nil⟩⟩⟩⟩⟩) zyx366e
theorem zyx367c : zchkX [(94, 15)] zprog2 (zovW [zyx360d, zyx366d]) 100000 kX8_sum [zyx361q, zyx355q, zyx349q, zyx343q] [zyx367q] [zyx367q] = true := zall_ok zyg17_ok (k := 2) (a := zbzyx367c) rfl
theorem zyx367k {l : Launch} {D : va_G} {tys : List (ClassId × FieldType)} {o : zO} {z : Nat} (E : zEnv tys) : zPtOk l D vwCl tys o z (zXX o z) zTs mX8_sum zyx367q := zkn_pt E (fun g => List.forall_mem_cons.mpr ⟨zyx360 (o := zwith o g) E, List.forall_mem_cons.mpr ⟨zyx366 (o := zwith o g) E, fun _ h => absurd h List.not_mem_nil⟩⟩) (show zget zprog2 284 = some mX8_sum from rfl) (List.forall_mem_cons.mpr ⟨zyx361k E, List.forall_mem_cons.mpr ⟨zyx355k E, List.forall_mem_cons.mpr ⟨zyx349k E, List.forall_mem_cons.mpr ⟨zyx343k E, fun _ h => absurd h List.not_mem_nil⟩⟩⟩⟩) zyx367c _ List.mem_cons_self
theorem zyx367e : zrunw zprog2 (zovW [zyx360d, zyx366d]) 100000 (zcutW [(94, 15)] none ((zyx367r, zyh449), 22, 2700) [zyx367q, zyx361q, zyx355q, zyx349q, zyx343q]) 22 2700 kX8_sum (zkin zyx367r zyh449) 0 (zargs 0 zyx367a, [], (zyh448.1, zyh448.2.1, 0), 0, 0) = true := zall_ok zyg17_ok (k := 3) (a := zbzyx367e) rfl
theorem zyx367 {l : Launch} {D : va_G} {tys : List (ClassId × FieldType)} {o : zO} {z : Nat} (E : zEnv tys) : zKnW l D vwCl tys o z (zXX o z) zTs zprog2 zyx367d :=
  zkn_mk E (fun g => List.forall_mem_cons.mpr ⟨zyx360 (o := zwith o g) E, List.forall_mem_cons.mpr ⟨zyx366 (o := zwith o g) E, fun _ h => absurd h List.not_mem_nil⟩⟩) (show zget zprog2 284 = some mX8_sum from rfl) rfl (by decide) (by decide) (by decide) (by decide) (G := [zyx367q, zyx361q, zyx355q, zyx349q, zyx343q]) (List.forall_mem_cons.mpr ⟨zyx367k E, List.forall_mem_cons.mpr ⟨zyx361k E, List.forall_mem_cons.mpr ⟨zyx355k E, List.forall_mem_cons.mpr ⟨zyx349k E, List.forall_mem_cons.mpr ⟨zyx343k E, fun _ h => absurd h List.not_mem_nil⟩⟩⟩⟩⟩) zyx367e
theorem zyx368e : zrunw zprog2 (zovW [zyx361d, zyx367d, zyx336d]) 100000 (zcutW [] none ((zyx368r, zyh449), 23, 2820) zyx368p) 23 2820 kX8_heldBy (zkin zyx368r zyh449) 0 (zargs 0 zyx368a, [], (zyh448.1, zyh448.2.1, 0), 0, 0) = true := zall_ok zyg17_ok (k := 4) (a := zbzyx368e) rfl
theorem zyx368 {l : Launch} {D : va_G} {tys : List (ClassId × FieldType)} {o : zO} {z : Nat} (E : zEnv tys) : zKnW l D vwCl tys o z (zXX o z) zTs zprog2 zyx368d :=
  zkn_mk E (fun g => List.forall_mem_cons.mpr ⟨zyx361 (o := zwith o g) E, List.forall_mem_cons.mpr ⟨zyx367 (o := zwith o g) E, List.forall_mem_cons.mpr ⟨zyx336 (o := zwith o g) E, fun _ h => absurd h List.not_mem_nil⟩⟩⟩) (show zget zprog2 229 = some mX8_heldBy from rfl) rfl (by decide) (by decide) (by decide) (by decide) (G := zyx368p) (fun _ h => absurd h List.not_mem_nil) zyx368e
theorem zyx369e : zrunw zprog2 (zovW []) 100000 zcut0 4 480 kX8_oneOf (zkinL zyx369q) 0 (zargs 0 zyx369a, [], (zyh445.1, zyh445.2.1, 0), 0, 0) = true := zall_ok zyg17_ok (k := 5) (a := zbzyx369e) rfl
theorem zyx369 {l : Launch} {D : va_G} {tys : List (ClassId × FieldType)} {o : zO} {z : Nat} (E : zEnv tys) : zKnW l D vwCl tys o z (zXX o z) zTs zprog2 zyx369d :=
  zkn_ml E (fun g => fun _ h => absurd h List.not_mem_nil) (show zget zprog2 260 = some mX8_oneOf from rfl) rfl (by decide) (by decide) (by decide) (by decide) zyx369e
theorem zyx370c : zchkX [] zprog2 (zovW [zyx369d]) 100000 kX8_number [] zyx370p zyx370p = true := zall_ok zyg17_ok (k := 6) (a := zbzyx370c) rfl
theorem zyx370e : zrunw zprog2 (zovW [zyx369d]) 100000 (zcutW [] none ((zyx370r, zyh446), 5, 600) zyx370p) 5 600 kX8_number (zkin zyx370r zyh446) 0 (zargs 0 zyx370a, [], (zyh445.1, zyh445.2.1, 0), 0, 0) = true := zall_ok zyg17_ok (k := 7) (a := zbzyx370e) rfl
theorem zyx370 {l : Launch} {D : va_G} {tys : List (ClassId × FieldType)} {o : zO} {z : Nat} (E : zEnv tys) : zKnW l D vwCl tys o z (zXX o z) zTs zprog2 zyx370d :=
  zkn_mk E (fun g => List.forall_mem_cons.mpr ⟨zyx369 (o := zwith o g) E, fun _ h => absurd h List.not_mem_nil⟩) (show zget zprog2 259 = some mX8_number from rfl) rfl (by decide) (by decide) (by decide) (by decide) (G := zyx370p) (zkn_pt E (fun g => List.forall_mem_cons.mpr ⟨zyx369 (o := zwith o g) E, fun _ h => absurd h List.not_mem_nil⟩) (show zget zprog2 259 = some mX8_number from rfl) (fun _ h => absurd h List.not_mem_nil) zyx370c) zyx370e
theorem zyx371e : zrunw zprog2 (zovW [zyx368d, zyx365d, zyx336d, zyx370d, zyx335d]) 100000 (zcutW [] none ((zyx371r, zyh446), 24, 2940) zyx371p) 24 2940 k2X8_thing (zkin zyx371r zyh446) 0 (zargs 0 zyx371a, [], (zyh445.1, zyh445.2.1, 0), 0, 0) = true := zall_ok zyg17_ok (k := 8) (a := zbzyx371e) rfl
theorem zyx371 {l : Launch} {D : va_G} {tys : List (ClassId × FieldType)} {o : zO} {z : Nat} (E : zEnv tys) : zKnW l D vwCl tys o z (zXX o z) zTs zprog2 zyx371d :=
  zkn_mk E (fun g => List.forall_mem_cons.mpr ⟨zyx368 (o := zwith o g) E, List.forall_mem_cons.mpr ⟨zyx365 (o := zwith o g) E, List.forall_mem_cons.mpr ⟨zyx336 (o := zwith o g) E, List.forall_mem_cons.mpr ⟨zyx370 (o := zwith o g) E, List.forall_mem_cons.mpr ⟨zyx335 (o := zwith o g) E, fun _ h => absurd h List.not_mem_nil⟩⟩⟩⟩⟩) (show zget zprog2 292 = some m2X8_thing from rfl) rfl (by decide) (by decide) (by decide) (by decide) (G := zyx371p) (fun _ h => absurd h List.not_mem_nil) zyx371e
theorem zyx372c : zchkX [(94, 15)] zprog2 (zovW [zyx365d, zyx371d]) 100000 k2X8_product [zyx366q, zyx360q, zyx354q, zyx348q, zyx342q] [zyx372q] [zyx372q] = true := zall_ok zyg17_ok (k := 9) (a := zbzyx372c) rfl
theorem zyx372k {l : Launch} {D : va_G} {tys : List (ClassId × FieldType)} {o : zO} {z : Nat} (E : zEnv tys) : zPtOk l D vwCl tys o z (zXX o z) zTs m2X8_product zyx372q := zkn_pt E (fun g => List.forall_mem_cons.mpr ⟨zyx365 (o := zwith o g) E, List.forall_mem_cons.mpr ⟨zyx371 (o := zwith o g) E, fun _ h => absurd h List.not_mem_nil⟩⟩) (show zget zprog2 265 = some m2X8_product from rfl) (List.forall_mem_cons.mpr ⟨zyx366k E, List.forall_mem_cons.mpr ⟨zyx360k E, List.forall_mem_cons.mpr ⟨zyx354k E, List.forall_mem_cons.mpr ⟨zyx348k E, List.forall_mem_cons.mpr ⟨zyx342k E, fun _ h => absurd h List.not_mem_nil⟩⟩⟩⟩⟩) zyx372c _ List.mem_cons_self
theorem zyx372e : zrunw zprog2 (zovW [zyx365d, zyx371d]) 100000 (zcutW [(94, 15)] none ((zyx372r, zyh446), 25, 3060) [zyx372q, zyx366q, zyx360q, zyx354q, zyx348q, zyx342q]) 25 3060 k2X8_product (zkin zyx372r zyh446) 0 (zargs 0 zyx372a, [], (zyh445.1, zyh445.2.1, 0), 0, 0) = true := zall_ok zyg17_ok (k := 10) (a := zbzyx372e) rfl
theorem zyx372 {l : Launch} {D : va_G} {tys : List (ClassId × FieldType)} {o : zO} {z : Nat} (E : zEnv tys) : zKnW l D vwCl tys o z (zXX o z) zTs zprog2 zyx372d :=
  zkn_mk E (fun g => List.forall_mem_cons.mpr ⟨zyx365 (o := zwith o g) E, List.forall_mem_cons.mpr ⟨zyx371 (o := zwith o g) E, fun _ h => absurd h List.not_mem_nil⟩⟩) (show zget zprog2 265 = some m2X8_product from rfl) rfl (by decide) (by decide) (by decide) (by decide) (G := [zyx372q, zyx366q, zyx360q, zyx354q, zyx348q, zyx342q]) (List.forall_mem_cons.mpr ⟨zyx372k E, List.forall_mem_cons.mpr ⟨zyx366k E, List.forall_mem_cons.mpr ⟨zyx360k E, List.forall_mem_cons.mpr ⟨zyx354k E, List.forall_mem_cons.mpr ⟨zyx348k E, List.forall_mem_cons.mpr ⟨zyx342k E, fun _ h => absurd h List.not_mem_nil⟩⟩⟩⟩⟩⟩) zyx372e
theorem zyx373c : zchkX [(94, 15)] zprog2 (zovW [zyx366d, zyx372d]) 100000 kX8_sum [zyx367q, zyx361q, zyx355q, zyx349q, zyx343q] [zyx373q] [zyx373q] = true := zall_ok zyg17_ok (k := 11) (a := zbzyx373c) rfl
theorem zyx373k {l : Launch} {D : va_G} {tys : List (ClassId × FieldType)} {o : zO} {z : Nat} (E : zEnv tys) : zPtOk l D vwCl tys o z (zXX o z) zTs mX8_sum zyx373q := zkn_pt E (fun g => List.forall_mem_cons.mpr ⟨zyx366 (o := zwith o g) E, List.forall_mem_cons.mpr ⟨zyx372 (o := zwith o g) E, fun _ h => absurd h List.not_mem_nil⟩⟩) (show zget zprog2 284 = some mX8_sum from rfl) (List.forall_mem_cons.mpr ⟨zyx367k E, List.forall_mem_cons.mpr ⟨zyx361k E, List.forall_mem_cons.mpr ⟨zyx355k E, List.forall_mem_cons.mpr ⟨zyx349k E, List.forall_mem_cons.mpr ⟨zyx343k E, fun _ h => absurd h List.not_mem_nil⟩⟩⟩⟩⟩) zyx373c _ List.mem_cons_self
theorem zyx373e : zrunw zprog2 (zovW [zyx366d, zyx372d]) 100000 (zcutW [(94, 15)] none ((zyx373r, zyh446), 26, 3180) [zyx373q, zyx367q, zyx361q, zyx355q, zyx349q, zyx343q]) 26 3180 kX8_sum (zkin zyx373r zyh446) 0 (zargs 0 zyx373a, [], (zyh445.1, zyh445.2.1, 0), 0, 0) = true := zall_ok zyg17_ok (k := 12) (a := zbzyx373e) rfl
theorem zyx373 {l : Launch} {D : va_G} {tys : List (ClassId × FieldType)} {o : zO} {z : Nat} (E : zEnv tys) : zKnW l D vwCl tys o z (zXX o z) zTs zprog2 zyx373d :=
  zkn_mk E (fun g => List.forall_mem_cons.mpr ⟨zyx366 (o := zwith o g) E, List.forall_mem_cons.mpr ⟨zyx372 (o := zwith o g) E, fun _ h => absurd h List.not_mem_nil⟩⟩) (show zget zprog2 284 = some mX8_sum from rfl) rfl (by decide) (by decide) (by decide) (by decide) (G := [zyx373q, zyx367q, zyx361q, zyx355q, zyx349q, zyx343q]) (List.forall_mem_cons.mpr ⟨zyx373k E, List.forall_mem_cons.mpr ⟨zyx367k E, List.forall_mem_cons.mpr ⟨zyx361k E, List.forall_mem_cons.mpr ⟨zyx355k E, List.forall_mem_cons.mpr ⟨zyx349k E, List.forall_mem_cons.mpr ⟨zyx343k E, fun _ h => absurd h List.not_mem_nil⟩⟩⟩⟩⟩⟩) zyx373e
theorem zyx374e : zrunw zprog2 (zovW [zyx367d, zyx373d, zyx335d]) 100000 (zcutW [] none ((zyx374r, zyh446), 27, 3300) zyx374p) 27 3300 kX8_heldBy (zkin zyx374r zyh446) 0 (zargs 0 zyx374a, [], (zyh445.1, zyh445.2.1, 0), 0, 0) = true := zall_ok zyg17_ok (k := 13) (a := zbzyx374e) rfl
theorem zyx374 {l : Launch} {D : va_G} {tys : List (ClassId × FieldType)} {o : zO} {z : Nat} (E : zEnv tys) : zKnW l D vwCl tys o z (zXX o z) zTs zprog2 zyx374d :=
  zkn_mk E (fun g => List.forall_mem_cons.mpr ⟨zyx367 (o := zwith o g) E, List.forall_mem_cons.mpr ⟨zyx373 (o := zwith o g) E, List.forall_mem_cons.mpr ⟨zyx335 (o := zwith o g) E, fun _ h => absurd h List.not_mem_nil⟩⟩⟩) (show zget zprog2 229 = some mX8_heldBy from rfl) rfl (by decide) (by decide) (by decide) (by decide) (G := zyx374p) (fun _ h => absurd h List.not_mem_nil) zyx374e
theorem zyx375e : zrunw zprog2 (zovW []) 100000 zcut0 4 480 kX8_oneOf (zkinL zyx375q) 0 (zargs 0 zyx375a, [], (zyh442.1, zyh442.2.1, 0), 0, 0) = true := zall_ok zyg17_ok (k := 14) (a := zbzyx375e) rfl
theorem zyx375 {l : Launch} {D : va_G} {tys : List (ClassId × FieldType)} {o : zO} {z : Nat} (E : zEnv tys) : zKnW l D vwCl tys o z (zXX o z) zTs zprog2 zyx375d :=
  zkn_ml E (fun g => fun _ h => absurd h List.not_mem_nil) (show zget zprog2 260 = some mX8_oneOf from rfl) rfl (by decide) (by decide) (by decide) (by decide) zyx375e
theorem zyx376c : zchkX [] zprog2 (zovW [zyx375d]) 100000 kX8_number [] zyx376p zyx376p = true := zall_ok zyg17_ok (k := 15) (a := zbzyx376c) rfl
theorem zyx376e : zrunw zprog2 (zovW [zyx375d]) 100000 (zcutW [] none ((zyx376r, zyh443), 5, 600) zyx376p) 5 600 kX8_number (zkin zyx376r zyh443) 0 (zargs 0 zyx376a, [], (zyh442.1, zyh442.2.1, 0), 0, 0) = true := zall_ok zyg17_ok (k := 16) (a := zbzyx376e) rfl
theorem zyx376 {l : Launch} {D : va_G} {tys : List (ClassId × FieldType)} {o : zO} {z : Nat} (E : zEnv tys) : zKnW l D vwCl tys o z (zXX o z) zTs zprog2 zyx376d :=
  zkn_mk E (fun g => List.forall_mem_cons.mpr ⟨zyx375 (o := zwith o g) E, fun _ h => absurd h List.not_mem_nil⟩) (show zget zprog2 259 = some mX8_number from rfl) rfl (by decide) (by decide) (by decide) (by decide) (G := zyx376p) (zkn_pt E (fun g => List.forall_mem_cons.mpr ⟨zyx375 (o := zwith o g) E, fun _ h => absurd h List.not_mem_nil⟩) (show zget zprog2 259 = some mX8_number from rfl) (fun _ h => absurd h List.not_mem_nil) zyx376c) zyx376e
theorem zyx377e : zrunw zprog2 (zovW [zyx374d, zyx371d, zyx335d, zyx376d, zyx334d]) 100000 (zcutW [] none ((zyx377r, zyh443), 28, 3420) zyx377p) 28 3420 k2X8_thing (zkin zyx377r zyh443) 0 (zargs 0 zyx377a, [], (zyh442.1, zyh442.2.1, 0), 0, 0) = true := zall_ok zyg17_ok (k := 17) (a := zbzyx377e) rfl
theorem zyx377 {l : Launch} {D : va_G} {tys : List (ClassId × FieldType)} {o : zO} {z : Nat} (E : zEnv tys) : zKnW l D vwCl tys o z (zXX o z) zTs zprog2 zyx377d :=
  zkn_mk E (fun g => List.forall_mem_cons.mpr ⟨zyx374 (o := zwith o g) E, List.forall_mem_cons.mpr ⟨zyx371 (o := zwith o g) E, List.forall_mem_cons.mpr ⟨zyx335 (o := zwith o g) E, List.forall_mem_cons.mpr ⟨zyx376 (o := zwith o g) E, List.forall_mem_cons.mpr ⟨zyx334 (o := zwith o g) E, fun _ h => absurd h List.not_mem_nil⟩⟩⟩⟩⟩) (show zget zprog2 292 = some m2X8_thing from rfl) rfl (by decide) (by decide) (by decide) (by decide) (G := zyx377p) (fun _ h => absurd h List.not_mem_nil) zyx377e
theorem zyx378c : zchkX [(94, 15)] zprog2 (zovW [zyx371d, zyx377d]) 100000 k2X8_product [zyx372q, zyx366q, zyx360q, zyx354q, zyx348q, zyx342q] [zyx378q] [zyx378q] = true := zall_ok zyg17_ok (k := 18) (a := zbzyx378c) rfl
theorem zyx378k {l : Launch} {D : va_G} {tys : List (ClassId × FieldType)} {o : zO} {z : Nat} (E : zEnv tys) : zPtOk l D vwCl tys o z (zXX o z) zTs m2X8_product zyx378q := zkn_pt E (fun g => List.forall_mem_cons.mpr ⟨zyx371 (o := zwith o g) E, List.forall_mem_cons.mpr ⟨zyx377 (o := zwith o g) E, fun _ h => absurd h List.not_mem_nil⟩⟩) (show zget zprog2 265 = some m2X8_product from rfl) (List.forall_mem_cons.mpr ⟨zyx372k E, List.forall_mem_cons.mpr ⟨zyx366k E, List.forall_mem_cons.mpr ⟨zyx360k E, List.forall_mem_cons.mpr ⟨zyx354k E, List.forall_mem_cons.mpr ⟨zyx348k E, List.forall_mem_cons.mpr ⟨zyx342k E, fun _ h => absurd h List.not_mem_nil⟩⟩⟩⟩⟩⟩) zyx378c _ List.mem_cons_self
theorem zyx378e : zrunw zprog2 (zovW [zyx371d, zyx377d]) 100000 (zcutW [(94, 15)] none ((zyx378r, zyh443), 29, 3540) [zyx378q, zyx372q, zyx366q, zyx360q, zyx354q, zyx348q, zyx342q]) 29 3540 k2X8_product (zkin zyx378r zyh443) 0 (zargs 0 zyx378a, [], (zyh442.1, zyh442.2.1, 0), 0, 0) = true := zall_ok zyg17_ok (k := 19) (a := zbzyx378e) rfl
theorem zyx378 {l : Launch} {D : va_G} {tys : List (ClassId × FieldType)} {o : zO} {z : Nat} (E : zEnv tys) : zKnW l D vwCl tys o z (zXX o z) zTs zprog2 zyx378d :=
  zkn_mk E (fun g => List.forall_mem_cons.mpr ⟨zyx371 (o := zwith o g) E, List.forall_mem_cons.mpr ⟨zyx377 (o := zwith o g) E, fun _ h => absurd h List.not_mem_nil⟩⟩) (show zget zprog2 265 = some m2X8_product from rfl) rfl (by decide) (by decide) (by decide) (by decide) (G := [zyx378q, zyx372q, zyx366q, zyx360q, zyx354q, zyx348q, zyx342q]) (List.forall_mem_cons.mpr ⟨zyx378k E, List.forall_mem_cons.mpr ⟨zyx372k E, List.forall_mem_cons.mpr ⟨zyx366k E, List.forall_mem_cons.mpr ⟨zyx360k E, List.forall_mem_cons.mpr ⟨zyx354k E, List.forall_mem_cons.mpr ⟨zyx348k E, List.forall_mem_cons.mpr ⟨zyx342k E, fun _ h => absurd h List.not_mem_nil⟩⟩⟩⟩⟩⟩⟩) zyx378e
theorem zyx379c : zchkX [(94, 15)] zprog2 (zovW [zyx372d, zyx378d]) 100000 kX8_sum [zyx373q, zyx367q, zyx361q, zyx355q, zyx349q, zyx343q] [zyx379q] [zyx379q] = true := zall_ok zyg17_ok (k := 20) (a := zbzyx379c) rfl
theorem zyx379k {l : Launch} {D : va_G} {tys : List (ClassId × FieldType)} {o : zO} {z : Nat} (E : zEnv tys) : zPtOk l D vwCl tys o z (zXX o z) zTs mX8_sum zyx379q := zkn_pt E (fun g => List.forall_mem_cons.mpr ⟨zyx372 (o := zwith o g) E, List.forall_mem_cons.mpr ⟨zyx378 (o := zwith o g) E, fun _ h => absurd h List.not_mem_nil⟩⟩) (show zget zprog2 284 = some mX8_sum from rfl) (List.forall_mem_cons.mpr ⟨zyx373k E, List.forall_mem_cons.mpr ⟨zyx367k E, List.forall_mem_cons.mpr ⟨zyx361k E, List.forall_mem_cons.mpr ⟨zyx355k E, List.forall_mem_cons.mpr ⟨zyx349k E, List.forall_mem_cons.mpr ⟨zyx343k E, fun _ h => absurd h List.not_mem_nil⟩⟩⟩⟩⟩⟩) zyx379c _ List.mem_cons_self
theorem zyx379e : zrunw zprog2 (zovW [zyx372d, zyx378d]) 100000 (zcutW [(94, 15)] none ((zyx379r, zyh443), 30, 3660) [zyx379q, zyx373q, zyx367q, zyx361q, zyx355q, zyx349q, zyx343q]) 30 3660 kX8_sum (zkin zyx379r zyh443) 0 (zargs 0 zyx379a, [], (zyh442.1, zyh442.2.1, 0), 0, 0) = true := zall_ok zyg17_ok (k := 21) (a := zbzyx379e) rfl
theorem zyx379 {l : Launch} {D : va_G} {tys : List (ClassId × FieldType)} {o : zO} {z : Nat} (E : zEnv tys) : zKnW l D vwCl tys o z (zXX o z) zTs zprog2 zyx379d :=
  zkn_mk E (fun g => List.forall_mem_cons.mpr ⟨zyx372 (o := zwith o g) E, List.forall_mem_cons.mpr ⟨zyx378 (o := zwith o g) E, fun _ h => absurd h List.not_mem_nil⟩⟩) (show zget zprog2 284 = some mX8_sum from rfl) rfl (by decide) (by decide) (by decide) (by decide) (G := [zyx379q, zyx373q, zyx367q, zyx361q, zyx355q, zyx349q, zyx343q]) (List.forall_mem_cons.mpr ⟨zyx379k E, List.forall_mem_cons.mpr ⟨zyx373k E, List.forall_mem_cons.mpr ⟨zyx367k E, List.forall_mem_cons.mpr ⟨zyx361k E, List.forall_mem_cons.mpr ⟨zyx355k E, List.forall_mem_cons.mpr ⟨zyx349k E, List.forall_mem_cons.mpr ⟨zyx343k E, fun _ h => absurd h List.not_mem_nil⟩⟩⟩⟩⟩⟩⟩) zyx379e
theorem zyx380e : zrunw zprog2 (zovW [zyx373d, zyx379d, zyx334d]) 100000 (zcutW [] none ((zyx380r, zyh443), 31, 3780) zyx380p) 31 3780 kX8_heldBy (zkin zyx380r zyh443) 0 (zargs 0 zyx380a, [], (zyh442.1, zyh442.2.1, 0), 0, 0) = true := zall_ok zyg17_ok (k := 22) (a := zbzyx380e) rfl
theorem zyx380 {l : Launch} {D : va_G} {tys : List (ClassId × FieldType)} {o : zO} {z : Nat} (E : zEnv tys) : zKnW l D vwCl tys o z (zXX o z) zTs zprog2 zyx380d :=
  zkn_mk E (fun g => List.forall_mem_cons.mpr ⟨zyx373 (o := zwith o g) E, List.forall_mem_cons.mpr ⟨zyx379 (o := zwith o g) E, List.forall_mem_cons.mpr ⟨zyx334 (o := zwith o g) E, fun _ h => absurd h List.not_mem_nil⟩⟩⟩) (show zget zprog2 229 = some mX8_heldBy from rfl) rfl (by decide) (by decide) (by decide) (by decide) (G := zyx380p) (fun _ h => absurd h List.not_mem_nil) zyx380e
theorem zyx381e : zrunw zprog2 (zovW []) 100000 zcut0 4 480 kX8_oneOf (zkinL zyx381q) 0 (zargs 0 zyx381a, [], (zyh439.1, zyh439.2.1, 0), 0, 0) = true := zall_ok zyg17_ok (k := 23) (a := zbzyx381e) rfl
theorem zyx381 {l : Launch} {D : va_G} {tys : List (ClassId × FieldType)} {o : zO} {z : Nat} (E : zEnv tys) : zKnW l D vwCl tys o z (zXX o z) zTs zprog2 zyx381d :=
  zkn_ml E (fun g => fun _ h => absurd h List.not_mem_nil) (show zget zprog2 260 = some mX8_oneOf from rfl) rfl (by decide) (by decide) (by decide) (by decide) zyx381e
theorem zyx382c : zchkX [] zprog2 (zovW [zyx381d]) 100000 kX8_number [] zyx382p zyx382p = true := zall_ok zyg17_ok (k := 24) (a := zbzyx382c) rfl
theorem zyx382e : zrunw zprog2 (zovW [zyx381d]) 100000 (zcutW [] none ((zyx382r, zyh440), 5, 600) zyx382p) 5 600 kX8_number (zkin zyx382r zyh440) 0 (zargs 0 zyx382a, [], (zyh439.1, zyh439.2.1, 0), 0, 0) = true := zall_ok zyg17_ok (k := 25) (a := zbzyx382e) rfl
theorem zyx382 {l : Launch} {D : va_G} {tys : List (ClassId × FieldType)} {o : zO} {z : Nat} (E : zEnv tys) : zKnW l D vwCl tys o z (zXX o z) zTs zprog2 zyx382d :=
  zkn_mk E (fun g => List.forall_mem_cons.mpr ⟨zyx381 (o := zwith o g) E, fun _ h => absurd h List.not_mem_nil⟩) (show zget zprog2 259 = some mX8_number from rfl) rfl (by decide) (by decide) (by decide) (by decide) (G := zyx382p) (zkn_pt E (fun g => List.forall_mem_cons.mpr ⟨zyx381 (o := zwith o g) E, fun _ h => absurd h List.not_mem_nil⟩) (show zget zprog2 259 = some mX8_number from rfl) (fun _ h => absurd h List.not_mem_nil) zyx382c) zyx382e
theorem zyx383e : zrunw zprog2 (zovW [zyx380d, zyx377d, zyx334d, zyx382d, zyx333d]) 100000 (zcutW [] none ((zyx383r, zyh440), 32, 3900) zyx383p) 32 3900 k2X8_thing (zkin zyx383r zyh440) 0 (zargs 0 zyx383a, [], (zyh439.1, zyh439.2.1, 0), 0, 0) = true := zall_ok zyg17_ok (k := 26) (a := zbzyx383e) rfl
theorem zyx383 {l : Launch} {D : va_G} {tys : List (ClassId × FieldType)} {o : zO} {z : Nat} (E : zEnv tys) : zKnW l D vwCl tys o z (zXX o z) zTs zprog2 zyx383d :=
  zkn_mk E (fun g => List.forall_mem_cons.mpr ⟨zyx380 (o := zwith o g) E, List.forall_mem_cons.mpr ⟨zyx377 (o := zwith o g) E, List.forall_mem_cons.mpr ⟨zyx334 (o := zwith o g) E, List.forall_mem_cons.mpr ⟨zyx382 (o := zwith o g) E, List.forall_mem_cons.mpr ⟨zyx333 (o := zwith o g) E, fun _ h => absurd h List.not_mem_nil⟩⟩⟩⟩⟩) (show zget zprog2 292 = some m2X8_thing from rfl) rfl (by decide) (by decide) (by decide) (by decide) (G := zyx383p) (fun _ h => absurd h List.not_mem_nil) zyx383e
theorem zyx384c : zchkX [(94, 15)] zprog2 (zovW [zyx377d, zyx383d]) 100000 k2X8_product [zyx378q, zyx372q, zyx366q, zyx360q, zyx354q, zyx348q, zyx342q] [zyx384q] [zyx384q] = true := zall_ok zyg17_ok (k := 27) (a := zbzyx384c) rfl
theorem zyx384k {l : Launch} {D : va_G} {tys : List (ClassId × FieldType)} {o : zO} {z : Nat} (E : zEnv tys) : zPtOk l D vwCl tys o z (zXX o z) zTs m2X8_product zyx384q := zkn_pt E (fun g => List.forall_mem_cons.mpr ⟨zyx377 (o := zwith o g) E, List.forall_mem_cons.mpr ⟨zyx383 (o := zwith o g) E, fun _ h => absurd h List.not_mem_nil⟩⟩) (show zget zprog2 265 = some m2X8_product from rfl) (List.forall_mem_cons.mpr ⟨zyx378k E, List.forall_mem_cons.mpr ⟨zyx372k E, List.forall_mem_cons.mpr ⟨zyx366k E, List.forall_mem_cons.mpr ⟨zyx360k E, List.forall_mem_cons.mpr ⟨zyx354k E, List.forall_mem_cons.mpr ⟨zyx348k E, List.forall_mem_cons.mpr ⟨zyx342k E, fun _ h => absurd h List.not_mem_nil⟩⟩⟩⟩⟩⟩⟩) zyx384c _ List.mem_cons_self
theorem zyx384e : zrunw zprog2 (zovW [zyx377d, zyx383d]) 100000 (zcutW [(94, 15)] none ((zyx384r, zyh440), 33, 4020) [zyx384q, zyx378q, zyx372q, zyx366q, zyx360q, zyx354q, zyx348q, zyx342q]) 33 4020 k2X8_product (zkin zyx384r zyh440) 0 (zargs 0 zyx384a, [], (zyh439.1, zyh439.2.1, 0), 0, 0) = true := zall_ok zyg17_ok (k := 28) (a := zbzyx384e) rfl
theorem zyx384 {l : Launch} {D : va_G} {tys : List (ClassId × FieldType)} {o : zO} {z : Nat} (E : zEnv tys) : zKnW l D vwCl tys o z (zXX o z) zTs zprog2 zyx384d :=
  zkn_mk E (fun g => List.forall_mem_cons.mpr ⟨zyx377 (o := zwith o g) E, List.forall_mem_cons.mpr ⟨zyx383 (o := zwith o g) E, fun _ h => absurd h List.not_mem_nil⟩⟩) (show zget zprog2 265 = some m2X8_product from rfl) rfl (by decide) (by decide) (by decide) (by decide) (G := [zyx384q, zyx378q, zyx372q, zyx366q, zyx360q, zyx354q, zyx348q, zyx342q]) (List.forall_mem_cons.mpr ⟨zyx384k E, List.forall_mem_cons.mpr ⟨zyx378k E, List.forall_mem_cons.mpr ⟨zyx372k E, List.forall_mem_cons.mpr ⟨zyx366k E, List.forall_mem_cons.mpr ⟨zyx360k E, List.forall_mem_cons.mpr ⟨zyx354k E, List.forall_mem_cons.mpr ⟨zyx348k E, List.forall_mem_cons.mpr ⟨zyx342k E, fun _ h => absurd h List.not_mem_nil⟩⟩⟩⟩⟩⟩⟩⟩) zyx384e
theorem zyx385c : zchkX [(94, 15)] zprog2 (zovW [zyx378d, zyx384d]) 100000 kX8_sum [zyx379q, zyx373q, zyx367q, zyx361q, zyx355q, zyx349q, zyx343q] [zyx385q] [zyx385q] = true := zall_ok zyg17_ok (k := 29) (a := zbzyx385c) rfl
theorem zyx385k {l : Launch} {D : va_G} {tys : List (ClassId × FieldType)} {o : zO} {z : Nat} (E : zEnv tys) : zPtOk l D vwCl tys o z (zXX o z) zTs mX8_sum zyx385q := zkn_pt E (fun g => List.forall_mem_cons.mpr ⟨zyx378 (o := zwith o g) E, List.forall_mem_cons.mpr ⟨zyx384 (o := zwith o g) E, fun _ h => absurd h List.not_mem_nil⟩⟩) (show zget zprog2 284 = some mX8_sum from rfl) (List.forall_mem_cons.mpr ⟨zyx379k E, List.forall_mem_cons.mpr ⟨zyx373k E, List.forall_mem_cons.mpr ⟨zyx367k E, List.forall_mem_cons.mpr ⟨zyx361k E, List.forall_mem_cons.mpr ⟨zyx355k E, List.forall_mem_cons.mpr ⟨zyx349k E, List.forall_mem_cons.mpr ⟨zyx343k E, fun _ h => absurd h List.not_mem_nil⟩⟩⟩⟩⟩⟩⟩) zyx385c _ List.mem_cons_self
theorem zyx385e : zrunw zprog2 (zovW [zyx378d, zyx384d]) 100000 (zcutW [(94, 15)] none ((zyx385r, zyh440), 34, 4140) [zyx385q, zyx379q, zyx373q, zyx367q, zyx361q, zyx355q, zyx349q, zyx343q]) 34 4140 kX8_sum (zkin zyx385r zyh440) 0 (zargs 0 zyx385a, [], (zyh439.1, zyh439.2.1, 0), 0, 0) = true := zall_ok zyg17_ok (k := 30) (a := zbzyx385e) rfl
theorem zyx385 {l : Launch} {D : va_G} {tys : List (ClassId × FieldType)} {o : zO} {z : Nat} (E : zEnv tys) : zKnW l D vwCl tys o z (zXX o z) zTs zprog2 zyx385d :=
  zkn_mk E (fun g => List.forall_mem_cons.mpr ⟨zyx378 (o := zwith o g) E, List.forall_mem_cons.mpr ⟨zyx384 (o := zwith o g) E, fun _ h => absurd h List.not_mem_nil⟩⟩) (show zget zprog2 284 = some mX8_sum from rfl) rfl (by decide) (by decide) (by decide) (by decide) (G := [zyx385q, zyx379q, zyx373q, zyx367q, zyx361q, zyx355q, zyx349q, zyx343q]) (List.forall_mem_cons.mpr ⟨zyx385k E, List.forall_mem_cons.mpr ⟨zyx379k E, List.forall_mem_cons.mpr ⟨zyx373k E, List.forall_mem_cons.mpr ⟨zyx367k E, List.forall_mem_cons.mpr ⟨zyx361k E, List.forall_mem_cons.mpr ⟨zyx355k E, List.forall_mem_cons.mpr ⟨zyx349k E, List.forall_mem_cons.mpr ⟨zyx343k E, fun _ h => absurd h List.not_mem_nil⟩⟩⟩⟩⟩⟩⟩⟩) zyx385e
theorem zyx386e : zrunw zprog2 (zovW [zyx379d, zyx385d, zyx333d]) 100000 (zcutW [] none ((zyx386r, zyh440), 35, 4260) zyx386p) 35 4260 kX8_heldBy (zkin zyx386r zyh440) 0 (zargs 0 zyx386a, [], (zyh439.1, zyh439.2.1, 0), 0, 0) = true := zall_ok zyg17_ok (k := 31) (a := zbzyx386e) rfl
theorem zyx386 {l : Launch} {D : va_G} {tys : List (ClassId × FieldType)} {o : zO} {z : Nat} (E : zEnv tys) : zKnW l D vwCl tys o z (zXX o z) zTs zprog2 zyx386d :=
  zkn_mk E (fun g => List.forall_mem_cons.mpr ⟨zyx379 (o := zwith o g) E, List.forall_mem_cons.mpr ⟨zyx385 (o := zwith o g) E, List.forall_mem_cons.mpr ⟨zyx333 (o := zwith o g) E, fun _ h => absurd h List.not_mem_nil⟩⟩⟩) (show zget zprog2 229 = some mX8_heldBy from rfl) rfl (by decide) (by decide) (by decide) (by decide) (G := zyx386p) (fun _ h => absurd h List.not_mem_nil) zyx386e
theorem zyx387e : zrunw zprog2 (zovW []) 100000 zcut0 4 480 kX8_oneOf (zkinL zyx387q) 0 (zargs 0 zyx387a, [], (zyh436.1, zyh436.2.1, 0), 0, 0) = true := zall_ok zyg17_ok (k := 32) (a := zbzyx387e) rfl
theorem zyx387 {l : Launch} {D : va_G} {tys : List (ClassId × FieldType)} {o : zO} {z : Nat} (E : zEnv tys) : zKnW l D vwCl tys o z (zXX o z) zTs zprog2 zyx387d :=
  zkn_ml E (fun g => fun _ h => absurd h List.not_mem_nil) (show zget zprog2 260 = some mX8_oneOf from rfl) rfl (by decide) (by decide) (by decide) (by decide) zyx387e
theorem zyx388c : zchkX [] zprog2 (zovW [zyx387d]) 100000 kX8_number [] zyx388p zyx388p = true := zall_ok zyg17_ok (k := 33) (a := zbzyx388c) rfl
theorem zyx388e : zrunw zprog2 (zovW [zyx387d]) 100000 (zcutW [] none ((zyx388r, zyh437), 5, 600) zyx388p) 5 600 kX8_number (zkin zyx388r zyh437) 0 (zargs 0 zyx388a, [], (zyh436.1, zyh436.2.1, 0), 0, 0) = true := zall_ok zyg17_ok (k := 34) (a := zbzyx388e) rfl
theorem zyx388 {l : Launch} {D : va_G} {tys : List (ClassId × FieldType)} {o : zO} {z : Nat} (E : zEnv tys) : zKnW l D vwCl tys o z (zXX o z) zTs zprog2 zyx388d :=
  zkn_mk E (fun g => List.forall_mem_cons.mpr ⟨zyx387 (o := zwith o g) E, fun _ h => absurd h List.not_mem_nil⟩) (show zget zprog2 259 = some mX8_number from rfl) rfl (by decide) (by decide) (by decide) (by decide) (G := zyx388p) (zkn_pt E (fun g => List.forall_mem_cons.mpr ⟨zyx387 (o := zwith o g) E, fun _ h => absurd h List.not_mem_nil⟩) (show zget zprog2 259 = some mX8_number from rfl) (fun _ h => absurd h List.not_mem_nil) zyx388c) zyx388e
theorem zyx389e : zrunw zprog2 (zovW [zyx386d, zyx383d, zyx333d, zyx388d, zyx332d]) 100000 (zcutW [] none ((zyx389r, zyh437), 36, 4380) zyx389p) 36 4380 k2X8_thing (zkin zyx389r zyh437) 0 (zargs 0 zyx389a, [], (zyh436.1, zyh436.2.1, 0), 0, 0) = true := zall_ok zyg17_ok (k := 35) (a := zbzyx389e) rfl
theorem zyx389 {l : Launch} {D : va_G} {tys : List (ClassId × FieldType)} {o : zO} {z : Nat} (E : zEnv tys) : zKnW l D vwCl tys o z (zXX o z) zTs zprog2 zyx389d :=
  zkn_mk E (fun g => List.forall_mem_cons.mpr ⟨zyx386 (o := zwith o g) E, List.forall_mem_cons.mpr ⟨zyx383 (o := zwith o g) E, List.forall_mem_cons.mpr ⟨zyx333 (o := zwith o g) E, List.forall_mem_cons.mpr ⟨zyx388 (o := zwith o g) E, List.forall_mem_cons.mpr ⟨zyx332 (o := zwith o g) E, fun _ h => absurd h List.not_mem_nil⟩⟩⟩⟩⟩) (show zget zprog2 292 = some m2X8_thing from rfl) rfl (by decide) (by decide) (by decide) (by decide) (G := zyx389p) (fun _ h => absurd h List.not_mem_nil) zyx389e

