noncomputable def zyc336 : zC := .inr (8, [zyv114, zyv15, zyv15, zyv15, zyv114, zyv114, zyv114, zyv114, zyv15, zyv114, zyv15, zyv15, zyv121, zyv17, zyv314, zyv353, zyv17, zyv114, zyv114, zyv114, zyv15, zyv36, zyv129, zyv114, zyv15, zyv114, zyv114, zyv15, zyv15, zyv114, zyv114, zyv114, zyv114, zyv114, zyv114, zyv114, zyv114, zyv114, zyv114, zyv15, zyv114, zyv114, zyv114, zyv114, zyv15, zyv15, zyv15, zyv15, zyv114, zyv114, zyv114])
noncomputable def zyr267 : List zC := [zyc60, zyc60, zyc60, zyc69, zyc10, zyc10, zyc10, zyc12, zyc70, zyc8, zyc8, zyc70, zyc8, zyc8, zyc336, zyc52]
noncomputable def zyh296 : zH := (126, [zyr9, zyr10, zyr11, zyr12, zyr13, zyr267, zyr6, zyr7], zym9)
noncomputable def zyc337 : zC := .inr (8, [zyv114, zyv15, zyv15, zyv15, zyv114, zyv114, zyv114, zyv114, zyv15, zyv114, zyv15, zyv15, zyv121, zyv17, zyv314, zyv352, zyv17, zyv114, zyv114, zyv114, zyv15, zyv36, zyv129, zyv114, zyv15, zyv114, zyv114, zyv15, zyv15, zyv114, zyv114, zyv114, zyv114, zyv114, zyv114, zyv114, zyv114, zyv114, zyv114, zyv15, zyv114, zyv114, zyv114, zyv114, zyv15, zyv15, zyv15, zyv15, zyv114, zyv114, zyv114])
noncomputable def zyr268 : List zC := [zyc60, zyc60, zyc60, zyc69, zyc10, zyc10, zyc10, zyc12, zyc70, zyc8, zyc8, zyc70, zyc8, zyc8, zyc337, zyc52]
noncomputable def zyh297 : zH := (126, [zyr9, zyr10, zyr11, zyr12, zyr13, zyr268, zyr6, zyr7], zym9)
noncomputable def zyc338 : zC := .inr (8, [zyv114, zyv15, zyv15, zyv15, zyv114, zyv114, zyv114, zyv114, zyv15, zyv114, zyv15, zyv15, zyv121, zyv17, zyv314, zyv351, zyv17, zyv114, zyv114, zyv114, zyv15, zyv36, zyv129, zyv114, zyv15, zyv114, zyv114, zyv15, zyv15, zyv114, zyv114, zyv114, zyv114, zyv114, zyv114, zyv114, zyv114, zyv114, zyv114, zyv15, zyv114, zyv114, zyv114, zyv114, zyv15, zyv15, zyv15, zyv15, zyv114, zyv114, zyv114])
noncomputable def zyr269 : List zC := [zyc60, zyc60, zyc60, zyc69, zyc10, zyc10, zyc10, zyc12, zyc70, zyc8, zyc8, zyc70, zyc8, zyc8, zyc338, zyc52]
noncomputable def zyh298 : zH := (126, [zyr9, zyr10, zyr11, zyr12, zyr13, zyr269, zyr6, zyr7], zym9)
noncomputable def zyc339 : zC := .inr (8, [zyv114, zyv15, zyv15, zyv15, zyv114, zyv114, zyv114, zyv114, zyv15, zyv114, zyv15, zyv15, zyv121, zyv17, zyv314, zyv350, zyv17, zyv114, zyv114, zyv114, zyv15, zyv36, zyv129, zyv114, zyv15, zyv114, zyv114, zyv15, zyv15, zyv114, zyv114, zyv114, zyv114, zyv114, zyv114, zyv114, zyv114, zyv114, zyv114, zyv15, zyv114, zyv114, zyv114, zyv114, zyv15, zyv15, zyv15, zyv15, zyv114, zyv114, zyv114])
noncomputable def zyr270 : List zC := [zyc60, zyc60, zyc60, zyc69, zyc10, zyc10, zyc10, zyc12, zyc70, zyc8, zyc8, zyc70, zyc8, zyc8, zyc339, zyc52]
noncomputable def zyh299 : zH := (126, [zyr9, zyr10, zyr11, zyr12, zyr13, zyr270, zyr6, zyr7], zym9)
/-! X8_sum ((('r', 99), 40, 37),) -/
noncomputable def zyx69a : List zAV := [.inr (.inr (.inl 94)), .inl ((.ofNat 1, .ofNat 4), none)]
def zyx69r : Option zAV := some (.inl ((.negSucc 2147483647, .ofNat 2147483647), none))
noncomputable def zyx69q : zPw := ((6, ([(0, .inr (.inr (.inl 94))), (1, .inl ((.ofNat 0, .ofNat 4), some (1, .ofNat 0))), (2, .inl ((.negSucc 2147483647, .ofNat 2147483647), some (2, .ofNat 0)))], [], zyh283, 0, 0), [], 0), (zyx69r, zyh283), 18, 2220)
noncomputable def zbzyx69c : Bool := zchkX [(94, 15)] zprog2 (zovW [zyx62d, zyx68d]) 100000 kX8_sum [zyx63q, zyx57q, zyx51q] [zyx69q] [zyx69q]
noncomputable def zyx69d : zKw := (284, 5, 18, 2220, zyx69a, zyh282, [(zyx69r, zyh283)])
noncomputable def zbzyx69e : Bool := zrunw zprog2 (zovW [zyx62d, zyx68d]) 100000 (zcutW [(94, 15)] none ((zyx69r, zyh283), 18, 2220) [zyx69q, zyx63q, zyx57q, zyx51q]) 18 2220 kX8_sum (zkin zyx69r zyh283) 0 (zargs 0 zyx69a, [], (zyh282.1, zyh282.2.1, 0), 0, 0)
/-! X8_heldBy -/
noncomputable def zyx70a : List zAV := [.inr (.inr (.inl 94)), .inl ((.ofNat 1, .ofNat 4), none)]
def zyx70r : Option zAV := some (.inl ((.negSucc 2147483647, .ofNat 2147483647), none))
noncomputable def zyx70d : zKw := (229, 3, 19, 2340, zyx70a, zyh282, [(zyx70r, zyh283)])
noncomputable def zbzyx70e : Bool := zrunw zprog2 (zovW [zyx63d, zyx69d, zyx45d]) 100000 (zcutW [] none ((zyx70r, zyh283), 19, 2340) []) 19 2340 kX8_heldBy (zkin zyx70r zyh283) 0 (zargs 0 zyx70a, [], (zyh282.1, zyh282.2.1, 0), 0, 0)
/-! X8_oneOf -/
noncomputable def zyx71a : List zAV := [zyv315, zyv357, zyv358]
noncomputable def zyx71q : List (Option zAV × zH) := [(some (.inl ((.ofNat 0, .ofNat 0), none)), zyh296), (some (.inl ((.negSucc 175, .ofNat 79), none)), zyh281)]
noncomputable def zyx71d : zKw := (260, 3, 4, 480, zyx71a, zyh279, zyx71q)
noncomputable def zbzyx71e : Bool := zrunw zprog2 (zovW []) 100000 zcut0 4 480 kX8_oneOf (zkinL zyx71q) 0 (zargs 0 zyx71a, [], (zyh279.1, zyh279.2.1, 0), 0, 0)
/-! X8_number -/
noncomputable def zyx72a : List zAV := [.inr (.inr (.inl 94)), .inl ((.ofNat 3, .ofNat 3), none)]
def zyx72r : Option zAV := some (.inl ((.negSucc 2147483647, .ofNat 2147483647), none))
noncomputable def zyx72q0 : zPw := ((11, ([(0, .inr (.inr (.inl 94))), (1, .inl ((.ofNat 3, .ofNat 3), some (1, .ofNat 0))), (2, .inl ((.negSucc 2147483647, .ofNat 2147483647), some (2, .ofNat 0))), (3, .inl ((.ofNat 1, .ofNat 3), some (3, .ofNat 0)))], [], zyh280, 0, 0), [(3, .negSucc 1)], .ofNat 7), (zyx72r, zyh280), 5, 600)
noncomputable def zbzyx72c0 : Bool := zchkX [] zprog2 (zovW [zyx71d]) 100000 kX8_number [] [zyx72q0] [zyx72q0]
noncomputable def zyx72d : zKw := (259, 4, 5, 600, zyx72a, zyh279, [(zyx72r, zyh280)])
noncomputable def zbzyx72e : Bool := zrunw zprog2 (zovW [zyx71d]) 100000 (zcutW [] none ((zyx72r, zyh280), 5, 600) [zyx72q0]) 5 600 kX8_number (zkin zyx72r zyh280) 0 (zargs 0 zyx72a, [], (zyh279.1, zyh279.2.1, 0), 0, 0)
/-! X8_thing -/
noncomputable def zyx73a : List zAV := [.inr (.inr (.inl 94)), .inl ((.ofNat 0, .ofNat 4), none)]
def zyx73r : Option zAV := some (.inl ((.negSucc 2147483647, .ofNat 2147483647), none))
noncomputable def zyx73d : zKw := (292, 4, 20, 2460, zyx73a, zyh279, [(zyx73r, zyh280)])
noncomputable def zbzyx73e : Bool := zrunw zprog2 (zovW [zyx70d, zyx67d, zyx45d, zyx72d, zyx44d]) 100000 (zcutW [] none ((zyx73r, zyh280), 20, 2460) []) 20 2460 k2X8_thing (zkin zyx73r zyh280) 0 (zargs 0 zyx73a, [], (zyh279.1, zyh279.2.1, 0), 0, 0)
/-! X8_product ((('r', 99), 40, 36),) -/
noncomputable def zyx74a : List zAV := [.inr (.inr (.inl 94)), .inl ((.ofNat 0, .ofNat 4), none)]
def zyx74r : Option zAV := some (.inl ((.negSucc 2147483647, .ofNat 2147483647), none))
noncomputable def zyx74q : zPw := ((6, ([(0, .inr (.inr (.inl 94))), (1, .inl ((.ofNat 0, .ofNat 4), some (1, .ofNat 0))), (2, .inl ((.negSucc 2147483647, .ofNat 2147483647), some (2, .ofNat 0)))], [], zyh280, 0, 0), [], 0), (zyx74r, zyh280), 21, 2580)
noncomputable def zbzyx74c : Bool := zchkX [(94, 15)] zprog2 (zovW [zyx67d, zyx73d]) 100000 k2X8_product [zyx68q, zyx62q, zyx56q, zyx50q] [zyx74q] [zyx74q]
noncomputable def zyx74d : zKw := (265, 5, 21, 2580, zyx74a, zyh279, [(zyx74r, zyh280)])
noncomputable def zbzyx74e : Bool := zrunw zprog2 (zovW [zyx67d, zyx73d]) 100000 (zcutW [(94, 15)] none ((zyx74r, zyh280), 21, 2580) [zyx74q, zyx68q, zyx62q, zyx56q, zyx50q]) 21 2580 k2X8_product (zkin zyx74r zyh280) 0 (zargs 0 zyx74a, [], (zyh279.1, zyh279.2.1, 0), 0, 0)
/-! X8_sum ((('r', 99), 40, 36),) -/
noncomputable def zyx75a : List zAV := [.inr (.inr (.inl 94)), .inl ((.ofNat 1, .ofNat 4), none)]
def zyx75r : Option zAV := some (.inl ((.negSucc 2147483647, .ofNat 2147483647), none))
noncomputable def zyx75q : zPw := ((6, ([(0, .inr (.inr (.inl 94))), (1, .inl ((.ofNat 0, .ofNat 4), some (1, .ofNat 0))), (2, .inl ((.negSucc 2147483647, .ofNat 2147483647), some (2, .ofNat 0)))], [], zyh280, 0, 0), [], 0), (zyx75r, zyh280), 22, 2700)
noncomputable def zbzyx75c : Bool := zchkX [(94, 15)] zprog2 (zovW [zyx68d, zyx74d]) 100000 kX8_sum [zyx69q, zyx63q, zyx57q, zyx51q] [zyx75q] [zyx75q]
noncomputable def zyx75d : zKw := (284, 5, 22, 2700, zyx75a, zyh279, [(zyx75r, zyh280)])
noncomputable def zbzyx75e : Bool := zrunw zprog2 (zovW [zyx68d, zyx74d]) 100000 (zcutW [(94, 15)] none ((zyx75r, zyh280), 22, 2700) [zyx75q, zyx69q, zyx63q, zyx57q, zyx51q]) 22 2700 kX8_sum (zkin zyx75r zyh280) 0 (zargs 0 zyx75a, [], (zyh279.1, zyh279.2.1, 0), 0, 0)
/-! X8_heldBy -/
noncomputable def zyx76a : List zAV := [.inr (.inr (.inl 94)), .inl ((.ofNat 1, .ofNat 4), none)]
def zyx76r : Option zAV := some (.inl ((.negSucc 2147483647, .ofNat 2147483647), none))
noncomputable def zyx76d : zKw := (229, 3, 23, 2820, zyx76a, zyh279, [(zyx76r, zyh280)])
noncomputable def zbzyx76e : Bool := zrunw zprog2 (zovW [zyx69d, zyx75d, zyx44d]) 100000 (zcutW [] none ((zyx76r, zyh280), 23, 2820) []) 23 2820 kX8_heldBy (zkin zyx76r zyh280) 0 (zargs 0 zyx76a, [], (zyh279.1, zyh279.2.1, 0), 0, 0)
/-! X8_oneOf -/
noncomputable def zyx77a : List zAV := [zyv315, zyv357, zyv358]
noncomputable def zyx77q : List (Option zAV × zH) := [(some (.inl ((.ofNat 0, .ofNat 0), none)), zyh297), (some (.inl ((.negSucc 175, .ofNat 79), none)), zyh278)]
noncomputable def zyx77d : zKw := (260, 3, 4, 480, zyx77a, zyh276, zyx77q)
noncomputable def zbzyx77e : Bool := zrunw zprog2 (zovW []) 100000 zcut0 4 480 kX8_oneOf (zkinL zyx77q) 0 (zargs 0 zyx77a, [], (zyh276.1, zyh276.2.1, 0), 0, 0)
/-! X8_number -/
noncomputable def zyx78a : List zAV := [.inr (.inr (.inl 94)), .inl ((.ofNat 3, .ofNat 3), none)]
def zyx78r : Option zAV := some (.inl ((.negSucc 2147483647, .ofNat 2147483647), none))
noncomputable def zyx78q0 : zPw := ((11, ([(0, .inr (.inr (.inl 94))), (1, .inl ((.ofNat 3, .ofNat 3), some (1, .ofNat 0))), (2, .inl ((.negSucc 2147483647, .ofNat 2147483647), some (2, .ofNat 0))), (3, .inl ((.ofNat 1, .ofNat 3), some (3, .ofNat 0)))], [], zyh277, 0, 0), [(3, .negSucc 1)], .ofNat 7), (zyx78r, zyh277), 5, 600)
noncomputable def zbzyx78c0 : Bool := zchkX [] zprog2 (zovW [zyx77d]) 100000 kX8_number [] [zyx78q0] [zyx78q0]
noncomputable def zyx78d : zKw := (259, 4, 5, 600, zyx78a, zyh276, [(zyx78r, zyh277)])
noncomputable def zbzyx78e : Bool := zrunw zprog2 (zovW [zyx77d]) 100000 (zcutW [] none ((zyx78r, zyh277), 5, 600) [zyx78q0]) 5 600 kX8_number (zkin zyx78r zyh277) 0 (zargs 0 zyx78a, [], (zyh276.1, zyh276.2.1, 0), 0, 0)
/-! X8_thing -/
noncomputable def zyx79a : List zAV := [.inr (.inr (.inl 94)), .inl ((.ofNat 0, .ofNat 4), none)]
def zyx79r : Option zAV := some (.inl ((.negSucc 2147483647, .ofNat 2147483647), none))
noncomputable def zyx79d : zKw := (292, 4, 24, 2940, zyx79a, zyh276, [(zyx79r, zyh277)])
noncomputable def zbzyx79e : Bool := zrunw zprog2 (zovW [zyx76d, zyx73d, zyx44d, zyx78d, zyx43d]) 100000 (zcutW [] none ((zyx79r, zyh277), 24, 2940) []) 24 2940 k2X8_thing (zkin zyx79r zyh277) 0 (zargs 0 zyx79a, [], (zyh276.1, zyh276.2.1, 0), 0, 0)
/-! X8_product ((('r', 99), 40, 35),) -/
noncomputable def zyx80a : List zAV := [.inr (.inr (.inl 94)), .inl ((.ofNat 0, .ofNat 4), none)]
def zyx80r : Option zAV := some (.inl ((.negSucc 2147483647, .ofNat 2147483647), none))
noncomputable def zyx80q : zPw := ((6, ([(0, .inr (.inr (.inl 94))), (1, .inl ((.ofNat 0, .ofNat 4), some (1, .ofNat 0))), (2, .inl ((.negSucc 2147483647, .ofNat 2147483647), some (2, .ofNat 0)))], [], zyh277, 0, 0), [], 0), (zyx80r, zyh277), 25, 3060)
noncomputable def zbzyx80c : Bool := zchkX [(94, 15)] zprog2 (zovW [zyx73d, zyx79d]) 100000 k2X8_product [zyx74q, zyx68q, zyx62q, zyx56q, zyx50q] [zyx80q] [zyx80q]
noncomputable def zyx80d : zKw := (265, 5, 25, 3060, zyx80a, zyh276, [(zyx80r, zyh277)])
noncomputable def zbzyx80e : Bool := zrunw zprog2 (zovW [zyx73d, zyx79d]) 100000 (zcutW [(94, 15)] none ((zyx80r, zyh277), 25, 3060) [zyx80q, zyx74q, zyx68q, zyx62q, zyx56q, zyx50q]) 25 3060 k2X8_product (zkin zyx80r zyh277) 0 (zargs 0 zyx80a, [], (zyh276.1, zyh276.2.1, 0), 0, 0)
/-! X8_sum ((('r', 99), 40, 35),) -/
noncomputable def zyx81a : List zAV := [.inr (.inr (.inl 94)), .inl ((.ofNat 1, .ofNat 4), none)]
def zyx81r : Option zAV := some (.inl ((.negSucc 2147483647, .ofNat 2147483647), none))
noncomputable def zyx81q : zPw := ((6, ([(0, .inr (.inr (.inl 94))), (1, .inl ((.ofNat 0, .ofNat 4), some (1, .ofNat 0))), (2, .inl ((.negSucc 2147483647, .ofNat 2147483647), some (2, .ofNat 0)))], [], zyh277, 0, 0), [], 0), (zyx81r, zyh277), 26, 3180)
noncomputable def zbzyx81c : Bool := zchkX [(94, 15)] zprog2 (zovW [zyx74d, zyx80d]) 100000 kX8_sum [zyx75q, zyx69q, zyx63q, zyx57q, zyx51q] [zyx81q] [zyx81q]
noncomputable def zyx81d : zKw := (284, 5, 26, 3180, zyx81a, zyh276, [(zyx81r, zyh277)])
noncomputable def zbzyx81e : Bool := zrunw zprog2 (zovW [zyx74d, zyx80d]) 100000 (zcutW [(94, 15)] none ((zyx81r, zyh277), 26, 3180) [zyx81q, zyx75q, zyx69q, zyx63q, zyx57q, zyx51q]) 26 3180 kX8_sum (zkin zyx81r zyh277) 0 (zargs 0 zyx81a, [], (zyh276.1, zyh276.2.1, 0), 0, 0)
/-! X8_heldBy -/
noncomputable def zyx82a : List zAV := [.inr (.inr (.inl 94)), .inl ((.ofNat 1, .ofNat 4), none)]
def zyx82r : Option zAV := some (.inl ((.negSucc 2147483647, .ofNat 2147483647), none))
noncomputable def zyx82d : zKw := (229, 3, 27, 3300, zyx82a, zyh276, [(zyx82r, zyh277)])
noncomputable def zbzyx82e : Bool := zrunw zprog2 (zovW [zyx75d, zyx81d, zyx43d]) 100000 (zcutW [] none ((zyx82r, zyh277), 27, 3300) []) 27 3300 kX8_heldBy (zkin zyx82r zyh277) 0 (zargs 0 zyx82a, [], (zyh276.1, zyh276.2.1, 0), 0, 0)
/-! X8_oneOf -/
noncomputable def zyx83a : List zAV := [zyv315, zyv357, zyv358]
noncomputable def zyx83q : List (Option zAV × zH) := [(some (.inl ((.ofNat 0, .ofNat 0), none)), zyh298), (some (.inl ((.negSucc 175, .ofNat 79), none)), zyh275)]
noncomputable def zyx83d : zKw := (260, 3, 4, 480, zyx83a, zyh273, zyx83q)
noncomputable def zbzyx83e : Bool := zrunw zprog2 (zovW []) 100000 zcut0 4 480 kX8_oneOf (zkinL zyx83q) 0 (zargs 0 zyx83a, [], (zyh273.1, zyh273.2.1, 0), 0, 0)
/-! X8_number -/
noncomputable def zyx84a : List zAV := [.inr (.inr (.inl 94)), .inl ((.ofNat 3, .ofNat 3), none)]
def zyx84r : Option zAV := some (.inl ((.negSucc 2147483647, .ofNat 2147483647), none))
noncomputable def zyx84q0 : zPw := ((11, ([(0, .inr (.inr (.inl 94))), (1, .inl ((.ofNat 3, .ofNat 3), some (1, .ofNat 0))), (2, .inl ((.negSucc 2147483647, .ofNat 2147483647), some (2, .ofNat 0))), (3, .inl ((.ofNat 1, .ofNat 3), some (3, .ofNat 0)))], [], zyh274, 0, 0), [(3, .negSucc 1)], .ofNat 7), (zyx84r, zyh274), 5, 600)
noncomputable def zbzyx84c0 : Bool := zchkX [] zprog2 (zovW [zyx83d]) 100000 kX8_number [] [zyx84q0] [zyx84q0]
noncomputable def zyx84d : zKw := (259, 4, 5, 600, zyx84a, zyh273, [(zyx84r, zyh274)])
noncomputable def zbzyx84e : Bool := zrunw zprog2 (zovW [zyx83d]) 100000 (zcutW [] none ((zyx84r, zyh274), 5, 600) [zyx84q0]) 5 600 kX8_number (zkin zyx84r zyh274) 0 (zargs 0 zyx84a, [], (zyh273.1, zyh273.2.1, 0), 0, 0)
/-! X8_thing -/
noncomputable def zyx85a : List zAV := [.inr (.inr (.inl 94)), .inl ((.ofNat 0, .ofNat 4), none)]
def zyx85r : Option zAV := some (.inl ((.negSucc 2147483647, .ofNat 2147483647), none))
noncomputable def zyx85d : zKw := (292, 4, 28, 3420, zyx85a, zyh273, [(zyx85r, zyh274)])
noncomputable def zbzyx85e : Bool := zrunw zprog2 (zovW [zyx82d, zyx79d, zyx43d, zyx84d, zyx42d]) 100000 (zcutW [] none ((zyx85r, zyh274), 28, 3420) []) 28 3420 k2X8_thing (zkin zyx85r zyh274) 0 (zargs 0 zyx85a, [], (zyh273.1, zyh273.2.1, 0), 0, 0)
/-! X8_product ((('r', 99), 40, 34),) -/
noncomputable def zyx86a : List zAV := [.inr (.inr (.inl 94)), .inl ((.ofNat 0, .ofNat 4), none)]
def zyx86r : Option zAV := some (.inl ((.negSucc 2147483647, .ofNat 2147483647), none))
noncomputable def zyx86q : zPw := ((6, ([(0, .inr (.inr (.inl 94))), (1, .inl ((.ofNat 0, .ofNat 4), some (1, .ofNat 0))), (2, .inl ((.negSucc 2147483647, .ofNat 2147483647), some (2, .ofNat 0)))], [], zyh274, 0, 0), [], 0), (zyx86r, zyh274), 29, 3540)
noncomputable def zbzyx86c : Bool := zchkX [(94, 15)] zprog2 (zovW [zyx79d, zyx85d]) 100000 k2X8_product [zyx80q, zyx74q, zyx68q, zyx62q, zyx56q, zyx50q] [zyx86q] [zyx86q]
noncomputable def zyx86d : zKw := (265, 5, 29, 3540, zyx86a, zyh273, [(zyx86r, zyh274)])
noncomputable def zbzyx86e : Bool := zrunw zprog2 (zovW [zyx79d, zyx85d]) 100000 (zcutW [(94, 15)] none ((zyx86r, zyh274), 29, 3540) [zyx86q, zyx80q, zyx74q, zyx68q, zyx62q, zyx56q, zyx50q]) 29 3540 k2X8_product (zkin zyx86r zyh274) 0 (zargs 0 zyx86a, [], (zyh273.1, zyh273.2.1, 0), 0, 0)
/-! X8_sum ((('r', 99), 40, 34),) -/
noncomputable def zyx87a : List zAV := [.inr (.inr (.inl 94)), .inl ((.ofNat 1, .ofNat 4), none)]
def zyx87r : Option zAV := some (.inl ((.negSucc 2147483647, .ofNat 2147483647), none))
noncomputable def zyx87q : zPw := ((6, ([(0, .inr (.inr (.inl 94))), (1, .inl ((.ofNat 0, .ofNat 4), some (1, .ofNat 0))), (2, .inl ((.negSucc 2147483647, .ofNat 2147483647), some (2, .ofNat 0)))], [], zyh274, 0, 0), [], 0), (zyx87r, zyh274), 30, 3660)
noncomputable def zbzyx87c : Bool := zchkX [(94, 15)] zprog2 (zovW [zyx80d, zyx86d]) 100000 kX8_sum [zyx81q, zyx75q, zyx69q, zyx63q, zyx57q, zyx51q] [zyx87q] [zyx87q]
noncomputable def zyx87d : zKw := (284, 5, 30, 3660, zyx87a, zyh273, [(zyx87r, zyh274)])
noncomputable def zbzyx87e : Bool := zrunw zprog2 (zovW [zyx80d, zyx86d]) 100000 (zcutW [(94, 15)] none ((zyx87r, zyh274), 30, 3660) [zyx87q, zyx81q, zyx75q, zyx69q, zyx63q, zyx57q, zyx51q]) 30 3660 kX8_sum (zkin zyx87r zyh274) 0 (zargs 0 zyx87a, [], (zyh273.1, zyh273.2.1, 0), 0, 0)
/-! X8_heldBy -/
noncomputable def zyx88a : List zAV := [.inr (.inr (.inl 94)), .inl ((.ofNat 1, .ofNat 4), none)]
def zyx88r : Option zAV := some (.inl ((.negSucc 2147483647, .ofNat 2147483647), none))
noncomputable def zyx88d : zKw := (229, 3, 31, 3780, zyx88a, zyh273, [(zyx88r, zyh274)])
noncomputable def zbzyx88e : Bool := zrunw zprog2 (zovW [zyx81d, zyx87d, zyx42d]) 100000 (zcutW [] none ((zyx88r, zyh274), 31, 3780) []) 31 3780 kX8_heldBy (zkin zyx88r zyh274) 0 (zargs 0 zyx88a, [], (zyh273.1, zyh273.2.1, 0), 0, 0)
/-! X8_oneOf -/
noncomputable def zyx89a : List zAV := [zyv315, zyv357, zyv358]
noncomputable def zyx89q : List (Option zAV × zH) := [(some (.inl ((.ofNat 0, .ofNat 0), none)), zyh299), (some (.inl ((.negSucc 175, .ofNat 79), none)), zyh272)]
noncomputable def zyx89d : zKw := (260, 3, 4, 480, zyx89a, zyh270, zyx89q)
noncomputable def zbzyx89e : Bool := zrunw zprog2 (zovW []) 100000 zcut0 4 480 kX8_oneOf (zkinL zyx89q) 0 (zargs 0 zyx89a, [], (zyh270.1, zyh270.2.1, 0), 0, 0)
/-! X8_number -/
noncomputable def zyx90a : List zAV := [.inr (.inr (.inl 94)), .inl ((.ofNat 3, .ofNat 3), none)]
def zyx90r : Option zAV := some (.inl ((.negSucc 2147483647, .ofNat 2147483647), none))
noncomputable def zyx90q0 : zPw := ((11, ([(0, .inr (.inr (.inl 94))), (1, .inl ((.ofNat 3, .ofNat 3), some (1, .ofNat 0))), (2, .inl ((.negSucc 2147483647, .ofNat 2147483647), some (2, .ofNat 0))), (3, .inl ((.ofNat 1, .ofNat 3), some (3, .ofNat 0)))], [], zyh271, 0, 0), [(3, .negSucc 1)], .ofNat 7), (zyx90r, zyh271), 5, 600)
noncomputable def zbzyx90c0 : Bool := zchkX [] zprog2 (zovW [zyx89d]) 100000 kX8_number [] [zyx90q0] [zyx90q0]
noncomputable def zyx90d : zKw := (259, 4, 5, 600, zyx90a, zyh270, [(zyx90r, zyh271)])
noncomputable def zbzyx90e : Bool := zrunw zprog2 (zovW [zyx89d]) 100000 (zcutW [] none ((zyx90r, zyh271), 5, 600) [zyx90q0]) 5 600 kX8_number (zkin zyx90r zyh271) 0 (zargs 0 zyx90a, [], (zyh270.1, zyh270.2.1, 0), 0, 0)
/-! X8_thing -/
noncomputable def zyx91a : List zAV := [.inr (.inr (.inl 94)), .inl ((.ofNat 0, .ofNat 4), none)]
def zyx91r : Option zAV := some (.inl ((.negSucc 2147483647, .ofNat 2147483647), none))
noncomputable def zyx91d : zKw := (292, 4, 32, 3900, zyx91a, zyh270, [(zyx91r, zyh271)])
noncomputable def zbzyx91e : Bool := zrunw zprog2 (zovW [zyx88d, zyx85d, zyx42d, zyx90d, zyx41d]) 100000 (zcutW [] none ((zyx91r, zyh271), 32, 3900) []) 32 3900 k2X8_thing (zkin zyx91r zyh271) 0 (zargs 0 zyx91a, [], (zyh270.1, zyh270.2.1, 0), 0, 0)
/-! X8_product ((('r', 99), 40, 33),) -/
noncomputable def zyx92a : List zAV := [.inr (.inr (.inl 94)), .inl ((.ofNat 0, .ofNat 4), none)]
def zyx92r : Option zAV := some (.inl ((.negSucc 2147483647, .ofNat 2147483647), none))
noncomputable def zyx92q : zPw := ((6, ([(0, .inr (.inr (.inl 94))), (1, .inl ((.ofNat 0, .ofNat 4), some (1, .ofNat 0))), (2, .inl ((.negSucc 2147483647, .ofNat 2147483647), some (2, .ofNat 0)))], [], zyh271, 0, 0), [], 0), (zyx92r, zyh271), 33, 4020)
noncomputable def zbzyx92c : Bool := zchkX [(94, 15)] zprog2 (zovW [zyx85d, zyx91d]) 100000 k2X8_product [zyx86q, zyx80q, zyx74q, zyx68q, zyx62q, zyx56q, zyx50q] [zyx92q] [zyx92q]
noncomputable def zyx92d : zKw := (265, 5, 33, 4020, zyx92a, zyh270, [(zyx92r, zyh271)])
noncomputable def zbzyx92e : Bool := zrunw zprog2 (zovW [zyx85d, zyx91d]) 100000 (zcutW [(94, 15)] none ((zyx92r, zyh271), 33, 4020) [zyx92q, zyx86q, zyx80q, zyx74q, zyx68q, zyx62q, zyx56q, zyx50q]) 33 4020 k2X8_product (zkin zyx92r zyh271) 0 (zargs 0 zyx92a, [], (zyh270.1, zyh270.2.1, 0), 0, 0)
noncomputable def zyg4 : List Bool := [zbzyx69c, zbzyx69e, zbzyx70e, zbzyx71e, zbzyx72c0, zbzyx72e, zbzyx73e, zbzyx74c, zbzyx74e, zbzyx75c, zbzyx75e, zbzyx76e, zbzyx77e, zbzyx78c0, zbzyx78e, zbzyx79e, zbzyx80c, zbzyx80e, zbzyx81c, zbzyx81e, zbzyx82e, zbzyx83e, zbzyx84c0, zbzyx84e, zbzyx85e, zbzyx86c, zbzyx86e, zbzyx87c, zbzyx87e, zbzyx88e, zbzyx89e, zbzyx90c0, zbzyx90e, zbzyx91e, zbzyx92c, zbzyx92e]
set_option maxRecDepth 100000 in
theorem zyg4_ok : zall (fun b => b) zyg4 = true := by decide +kernel
theorem zyx69c : zchkX [(94, 15)] zprog2 (zovW [zyx62d, zyx68d]) 100000 kX8_sum [zyx63q, zyx57q, zyx51q] [zyx69q] [zyx69q] = true := zall_ok zyg4_ok (k := 0) (a := zbzyx69c) rfl
theorem zyx69k {l : Launch} {D : va_G} {tys : List (ClassId × FieldType)} {o : zO} {z : Nat} (E : zEnv tys) : zPtOk l D vwCl tys o z (zXX o z) zTs mX8_sum zyx69q := zkn_pt E (fun g => List.forall_mem_cons.mpr ⟨zyx62 (o := zwith o g) E, List.forall_mem_cons.mpr ⟨zyx68 (o := zwith o g) E, fun _ h => absurd h List.not_mem_nil⟩⟩) (show zget zprog2 284 = some mX8_sum from rfl) (List.forall_mem_cons.mpr ⟨zyx63k E, List.forall_mem_cons.mpr ⟨zyx57k E, List.forall_mem_cons.mpr ⟨zyx51k E, fun _ h => absurd h List.not_mem_nil⟩⟩⟩) zyx69c _ List.mem_cons_self
theorem zyx69e : zrunw zprog2 (zovW [zyx62d, zyx68d]) 100000 (zcutW [(94, 15)] none ((zyx69r, zyh283), 18, 2220) [zyx69q, zyx63q, zyx57q, zyx51q]) 18 2220 kX8_sum (zkin zyx69r zyh283) 0 (zargs 0 zyx69a, [], (zyh282.1, zyh282.2.1, 0), 0, 0) = true := zall_ok zyg4_ok (k := 1) (a := zbzyx69e) rfl
theorem zyx69 {l : Launch} {D : va_G} {tys : List (ClassId × FieldType)} {o : zO} {z : Nat} (E : zEnv tys) : zKnW l D vwCl tys o z (zXX o z) zTs zprog2 zyx69d :=
  zkn_mk E (fun g => List.forall_mem_cons.mpr ⟨zyx62 (o := zwith o g) E, List.forall_mem_cons.mpr ⟨zyx68 (o := zwith o g) E, fun _ h => absurd h List.not_mem_nil⟩⟩) (show zget zprog2 284 = some mX8_sum from rfl) rfl (by decide) (by decide) (by decide) (by decide) (G := [zyx69q, zyx63q, zyx57q, zyx51q]) (List.forall_mem_cons.mpr ⟨zyx69k E, List.forall_mem_cons.mpr ⟨zyx63k E, List.forall_mem_cons.mpr ⟨zyx57k E, List.forall_mem_cons.mpr ⟨zyx51k E, fun _ h => absurd h List.not_mem_nil⟩⟩⟩⟩) zyx69e
theorem zyx70e : zrunw zprog2 (zovW [zyx63d, zyx69d, zyx45d]) 100000 (zcutW [] none ((zyx70r, zyh283), 19, 2340) []) 19 2340 kX8_heldBy (zkin zyx70r zyh283) 0 (zargs 0 zyx70a, [], (zyh282.1, zyh282.2.1, 0), 0, 0) = true := zall_ok zyg4_ok (k := 2) (a := zbzyx70e) rfl
theorem zyx70 {l : Launch} {D : va_G} {tys : List (ClassId × FieldType)} {o : zO} {z : Nat} (E : zEnv tys) : zKnW l D vwCl tys o z (zXX o z) zTs zprog2 zyx70d :=
  zkn_mk E (fun g => List.forall_mem_cons.mpr ⟨zyx63 (o := zwith o g) E, List.forall_mem_cons.mpr ⟨zyx69 (o := zwith o g) E, List.forall_mem_cons.mpr ⟨zyx45 (o := zwith o g) E, fun _ h => absurd h List.not_mem_nil⟩⟩⟩) (show zget zprog2 229 = some mX8_heldBy from rfl) rfl (by decide) (by decide) (by decide) (by decide) (G := []) (fun _ h => absurd h List.not_mem_nil) zyx70e
theorem zyx71e : zrunw zprog2 (zovW []) 100000 zcut0 4 480 kX8_oneOf (zkinL zyx71q) 0 (zargs 0 zyx71a, [], (zyh279.1, zyh279.2.1, 0), 0, 0) = true := zall_ok zyg4_ok (k := 3) (a := zbzyx71e) rfl
theorem zyx71 {l : Launch} {D : va_G} {tys : List (ClassId × FieldType)} {o : zO} {z : Nat} (E : zEnv tys) : zKnW l D vwCl tys o z (zXX o z) zTs zprog2 zyx71d :=
  zkn_ml E (fun g => fun _ h => absurd h List.not_mem_nil) (show zget zprog2 260 = some mX8_oneOf from rfl) rfl (by decide) (by decide) (by decide) (by decide) zyx71e
theorem zyx72c0 : zchkX [] zprog2 (zovW [zyx71d]) 100000 kX8_number [] [zyx72q0] [zyx72q0] = true := zall_ok zyg4_ok (k := 4) (a := zbzyx72c0) rfl
theorem zyx72_k0 {l : Launch} {D : va_G} {tys : List (ClassId × FieldType)} {o : zO} {z : Nat} (E : zEnv tys) : zPtOk l D vwCl tys o z (zXX o z) zTs mX8_number zyx72q0 := zkn_pt E (fun g => List.forall_mem_cons.mpr ⟨zyx71 (o := zwith o g) E, fun _ h => absurd h List.not_mem_nil⟩) (show zget zprog2 259 = some mX8_number from rfl) (fun _ h => absurd h List.not_mem_nil) zyx72c0 _ (List.mem_of_getElem? (i := 0) rfl)
theorem zyx72e : zrunw zprog2 (zovW [zyx71d]) 100000 (zcutW [] none ((zyx72r, zyh280), 5, 600) [zyx72q0]) 5 600 kX8_number (zkin zyx72r zyh280) 0 (zargs 0 zyx72a, [], (zyh279.1, zyh279.2.1, 0), 0, 0) = true := zall_ok zyg4_ok (k := 5) (a := zbzyx72e) rfl
theorem zyx72 {l : Launch} {D : va_G} {tys : List (ClassId × FieldType)} {o : zO} {z : Nat} (E : zEnv tys) : zKnW l D vwCl tys o z (zXX o z) zTs zprog2 zyx72d :=
  zkn_mk E (fun g => List.forall_mem_cons.mpr ⟨zyx71 (o := zwith o g) E, fun _ h => absurd h List.not_mem_nil⟩) (show zget zprog2 259 = some mX8_number from rfl) rfl (by decide) (by decide) (by decide) (by decide) (G := [zyx72q0]) (List.forall_mem_cons.mpr ⟨zyx72_k0 E, fun _ h => absurd h List.not_mem_nil⟩) zyx72e
theorem zyx73e : zrunw zprog2 (zovW [zyx70d, zyx67d, zyx45d, zyx72d, zyx44d]) 100000 (zcutW [] none ((zyx73r, zyh280), 20, 2460) []) 20 2460 k2X8_thing (zkin zyx73r zyh280) 0 (zargs 0 zyx73a, [], (zyh279.1, zyh279.2.1, 0), 0, 0) = true := zall_ok zyg4_ok (k := 6) (a := zbzyx73e) rfl
theorem zyx73 {l : Launch} {D : va_G} {tys : List (ClassId × FieldType)} {o : zO} {z : Nat} (E : zEnv tys) : zKnW l D vwCl tys o z (zXX o z) zTs zprog2 zyx73d :=
  zkn_mk E (fun g => List.forall_mem_cons.mpr ⟨zyx70 (o := zwith o g) E, List.forall_mem_cons.mpr ⟨zyx67 (o := zwith o g) E, List.forall_mem_cons.mpr ⟨zyx45 (o := zwith o g) E, List.forall_mem_cons.mpr ⟨zyx72 (o := zwith o g) E, List.forall_mem_cons.mpr ⟨zyx44 (o := zwith o g) E, fun _ h => absurd h List.not_mem_nil⟩⟩⟩⟩⟩) (show zget zprog2 292 = some m2X8_thing from rfl) rfl (by decide) (by decide) (by decide) (by decide) (G := []) (fun _ h => absurd h List.not_mem_nil) zyx73e
theorem zyx74c : zchkX [(94, 15)] zprog2 (zovW [zyx67d, zyx73d]) 100000 k2X8_product [zyx68q, zyx62q, zyx56q, zyx50q] [zyx74q] [zyx74q] = true := zall_ok zyg4_ok (k := 7) (a := zbzyx74c) rfl
theorem zyx74k {l : Launch} {D : va_G} {tys : List (ClassId × FieldType)} {o : zO} {z : Nat} (E : zEnv tys) : zPtOk l D vwCl tys o z (zXX o z) zTs m2X8_product zyx74q := zkn_pt E (fun g => List.forall_mem_cons.mpr ⟨zyx67 (o := zwith o g) E, List.forall_mem_cons.mpr ⟨zyx73 (o := zwith o g) E, fun _ h => absurd h List.not_mem_nil⟩⟩) (show zget zprog2 265 = some m2X8_product from rfl) (List.forall_mem_cons.mpr ⟨zyx68k E, List.forall_mem_cons.mpr ⟨zyx62k E, List.forall_mem_cons.mpr ⟨zyx56k E, List.forall_mem_cons.mpr ⟨zyx50k E, fun _ h => absurd h List.not_mem_nil⟩⟩⟩⟩) zyx74c _ List.mem_cons_self
theorem zyx74e : zrunw zprog2 (zovW [zyx67d, zyx73d]) 100000 (zcutW [(94, 15)] none ((zyx74r, zyh280), 21, 2580) [zyx74q, zyx68q, zyx62q, zyx56q, zyx50q]) 21 2580 k2X8_product (zkin zyx74r zyh280) 0 (zargs 0 zyx74a, [], (zyh279.1, zyh279.2.1, 0), 0, 0) = true := zall_ok zyg4_ok (k := 8) (a := zbzyx74e) rfl
theorem zyx74 {l : Launch} {D : va_G} {tys : List (ClassId × FieldType)} {o : zO} {z : Nat} (E : zEnv tys) : zKnW l D vwCl tys o z (zXX o z) zTs zprog2 zyx74d :=
  zkn_mk E (fun g => List.forall_mem_cons.mpr ⟨zyx67 (o := zwith o g) E, List.forall_mem_cons.mpr ⟨zyx73 (o := zwith o g) E, fun _ h => absurd h List.not_mem_nil⟩⟩) (show zget zprog2 265 = some m2X8_product from rfl) rfl (by decide) (by decide) (by decide) (by decide) (G := [zyx74q, zyx68q, zyx62q, zyx56q, zyx50q]) (List.forall_mem_cons.mpr ⟨zyx74k E, List.forall_mem_cons.mpr ⟨zyx68k E, List.forall_mem_cons.mpr ⟨zyx62k E, List.forall_mem_cons.mpr ⟨zyx56k E, List.forall_mem_cons.mpr ⟨zyx50k E, fun _ h => absurd h List.not_mem_nil⟩⟩⟩⟩⟩) zyx74e
theorem zyx75c : zchkX [(94, 15)] zprog2 (zovW [zyx68d, zyx74d]) 100000 kX8_sum [zyx69q, zyx63q, zyx57q, zyx51q] [zyx75q] [zyx75q] = true := zall_ok zyg4_ok (k := 9) (a := zbzyx75c) rfl
theorem zyx75k {l : Launch} {D : va_G} {tys : List (ClassId × FieldType)} {o : zO} {z : Nat} (E : zEnv tys) : zPtOk l D vwCl tys o z (zXX o z) zTs mX8_sum zyx75q := zkn_pt E (fun g => List.forall_mem_cons.mpr ⟨zyx68 (o := zwith o g) E, List.forall_mem_cons.mpr ⟨zyx74 (o := zwith o g) E, fun _ h => absurd h List.not_mem_nil⟩⟩) (show zget zprog2 284 = some mX8_sum from rfl) (List.forall_mem_cons.mpr ⟨zyx69k E, List.forall_mem_cons.mpr ⟨zyx63k E, List.forall_mem_cons.mpr ⟨zyx57k E, List.forall_mem_cons.mpr ⟨zyx51k E, fun _ h => absurd h List.not_mem_nil⟩⟩⟩⟩) zyx75c _ List.mem_cons_self
theorem zyx75e : zrunw zprog2 (zovW [zyx68d, zyx74d]) 100000 (zcutW [(94, 15)] none ((zyx75r, zyh280), 22, 2700) [zyx75q, zyx69q, zyx63q, zyx57q, zyx51q]) 22 2700 kX8_sum (zkin zyx75r zyh280) 0 (zargs 0 zyx75a, [], (zyh279.1, zyh279.2.1, 0), 0, 0) = true := zall_ok zyg4_ok (k := 10) (a := zbzyx75e) rfl
theorem zyx75 {l : Launch} {D : va_G} {tys : List (ClassId × FieldType)} {o : zO} {z : Nat} (E : zEnv tys) : zKnW l D vwCl tys o z (zXX o z) zTs zprog2 zyx75d :=
  zkn_mk E (fun g => List.forall_mem_cons.mpr ⟨zyx68 (o := zwith o g) E, List.forall_mem_cons.mpr ⟨zyx74 (o := zwith o g) E, fun _ h => absurd h List.not_mem_nil⟩⟩) (show zget zprog2 284 = some mX8_sum from rfl) rfl (by decide) (by decide) (by decide) (by decide) (G := [zyx75q, zyx69q, zyx63q, zyx57q, zyx51q]) (List.forall_mem_cons.mpr ⟨zyx75k E, List.forall_mem_cons.mpr ⟨zyx69k E, List.forall_mem_cons.mpr ⟨zyx63k E, List.forall_mem_cons.mpr ⟨zyx57k E, List.forall_mem_cons.mpr ⟨zyx51k E, fun _ h => absurd h List.not_mem_nil⟩⟩⟩⟩⟩) zyx75e
theorem zyx76e : zrunw zprog2 (zovW [zyx69d, zyx75d, zyx44d]) 100000 (zcutW [] none ((zyx76r, zyh280), 23, 2820) []) 23 2820 kX8_heldBy (zkin zyx76r zyh280) 0 (zargs 0 zyx76a, [], (zyh279.1, zyh279.2.1, 0), 0, 0) = true := zall_ok zyg4_ok (k := 11) (a := zbzyx76e) rfl
theorem zyx76 {l : Launch} {D : va_G} {tys : List (ClassId × FieldType)} {o : zO} {z : Nat} (E : zEnv tys) : zKnW l D vwCl tys o z (zXX o z) zTs zprog2 zyx76d :=
  zkn_mk E (fun g => List.forall_mem_cons.mpr ⟨zyx69 (o := zwith o g) E, List.forall_mem_cons.mpr ⟨zyx75 (o := zwith o g) E, List.forall_mem_cons.mpr ⟨zyx44 (o := zwith o g) E, fun _ h => absurd h List.not_mem_nil⟩⟩⟩) (show zget zprog2 229 = some mX8_heldBy from rfl) rfl (by decide) (by decide) (by decide) (by decide) (G := []) (fun _ h => absurd h List.not_mem_nil) zyx76e
theorem zyx77e : zrunw zprog2 (zovW []) 100000 zcut0 4 480 kX8_oneOf (zkinL zyx77q) 0 (zargs 0 zyx77a, [], (zyh276.1, zyh276.2.1, 0), 0, 0) = true := zall_ok zyg4_ok (k := 12) (a := zbzyx77e) rfl
theorem zyx77 {l : Launch} {D : va_G} {tys : List (ClassId × FieldType)} {o : zO} {z : Nat} (E : zEnv tys) : zKnW l D vwCl tys o z (zXX o z) zTs zprog2 zyx77d :=
  zkn_ml E (fun g => fun _ h => absurd h List.not_mem_nil) (show zget zprog2 260 = some mX8_oneOf from rfl) rfl (by decide) (by decide) (by decide) (by decide) zyx77e
theorem zyx78c0 : zchkX [] zprog2 (zovW [zyx77d]) 100000 kX8_number [] [zyx78q0] [zyx78q0] = true := zall_ok zyg4_ok (k := 13) (a := zbzyx78c0) rfl
theorem zyx78_k0 {l : Launch} {D : va_G} {tys : List (ClassId × FieldType)} {o : zO} {z : Nat} (E : zEnv tys) : zPtOk l D vwCl tys o z (zXX o z) zTs mX8_number zyx78q0 := zkn_pt E (fun g => List.forall_mem_cons.mpr ⟨zyx77 (o := zwith o g) E, fun _ h => absurd h List.not_mem_nil⟩) (show zget zprog2 259 = some mX8_number from rfl) (fun _ h => absurd h List.not_mem_nil) zyx78c0 _ (List.mem_of_getElem? (i := 0) rfl)
theorem zyx78e : zrunw zprog2 (zovW [zyx77d]) 100000 (zcutW [] none ((zyx78r, zyh277), 5, 600) [zyx78q0]) 5 600 kX8_number (zkin zyx78r zyh277) 0 (zargs 0 zyx78a, [], (zyh276.1, zyh276.2.1, 0), 0, 0) = true := zall_ok zyg4_ok (k := 14) (a := zbzyx78e) rfl
theorem zyx78 {l : Launch} {D : va_G} {tys : List (ClassId × FieldType)} {o : zO} {z : Nat} (E : zEnv tys) : zKnW l D vwCl tys o z (zXX o z) zTs zprog2 zyx78d :=
  zkn_mk E (fun g => List.forall_mem_cons.mpr ⟨zyx77 (o := zwith o g) E, fun _ h => absurd h List.not_mem_nil⟩) (show zget zprog2 259 = some mX8_number from rfl) rfl (by decide) (by decide) (by decide) (by decide) (G := [zyx78q0]) (List.forall_mem_cons.mpr ⟨zyx78_k0 E, fun _ h => absurd h List.not_mem_nil⟩) zyx78e
theorem zyx79e : zrunw zprog2 (zovW [zyx76d, zyx73d, zyx44d, zyx78d, zyx43d]) 100000 (zcutW [] none ((zyx79r, zyh277), 24, 2940) []) 24 2940 k2X8_thing (zkin zyx79r zyh277) 0 (zargs 0 zyx79a, [], (zyh276.1, zyh276.2.1, 0), 0, 0) = true := zall_ok zyg4_ok (k := 15) (a := zbzyx79e) rfl
theorem zyx79 {l : Launch} {D : va_G} {tys : List (ClassId × FieldType)} {o : zO} {z : Nat} (E : zEnv tys) : zKnW l D vwCl tys o z (zXX o z) zTs zprog2 zyx79d :=
  zkn_mk E (fun g => List.forall_mem_cons.mpr ⟨zyx76 (o := zwith o g) E, List.forall_mem_cons.mpr ⟨zyx73 (o := zwith o g) E, List.forall_mem_cons.mpr ⟨zyx44 (o := zwith o g) E, List.forall_mem_cons.mpr ⟨zyx78 (o := zwith o g) E, List.forall_mem_cons.mpr ⟨zyx43 (o := zwith o g) E, fun _ h => absurd h List.not_mem_nil⟩⟩⟩⟩⟩) (show zget zprog2 292 = some m2X8_thing from rfl) rfl (by decide) (by decide) (by decide) (by decide) (G := []) (fun _ h => absurd h List.not_mem_nil) zyx79e
theorem zyx80c : zchkX [(94, 15)] zprog2 (zovW [zyx73d, zyx79d]) 100000 k2X8_product [zyx74q, zyx68q, zyx62q, zyx56q, zyx50q] [zyx80q] [zyx80q] = true := zall_ok zyg4_ok (k := 16) (a := zbzyx80c) rfl
theorem zyx80k {l : Launch} {D : va_G} {tys : List (ClassId × FieldType)} {o : zO} {z : Nat} (E : zEnv tys) : zPtOk l D vwCl tys o z (zXX o z) zTs m2X8_product zyx80q := zkn_pt E (fun g => List.forall_mem_cons.mpr ⟨zyx73 (o := zwith o g) E, List.forall_mem_cons.mpr ⟨zyx79 (o := zwith o g) E, fun _ h => absurd h List.not_mem_nil⟩⟩) (show zget zprog2 265 = some m2X8_product from rfl) (List.forall_mem_cons.mpr ⟨zyx74k E, List.forall_mem_cons.mpr ⟨zyx68k E, List.forall_mem_cons.mpr ⟨zyx62k E, List.forall_mem_cons.mpr ⟨zyx56k E, List.forall_mem_cons.mpr ⟨zyx50k E, fun _ h => absurd h List.not_mem_nil⟩⟩⟩⟩⟩) zyx80c _ List.mem_cons_self
theorem zyx80e : zrunw zprog2 (zovW [zyx73d, zyx79d]) 100000 (zcutW [(94, 15)] none ((zyx80r, zyh277), 25, 3060) [zyx80q, zyx74q, zyx68q, zyx62q, zyx56q, zyx50q]) 25 3060 k2X8_product (zkin zyx80r zyh277) 0 (zargs 0 zyx80a, [], (zyh276.1, zyh276.2.1, 0), 0, 0) = true := zall_ok zyg4_ok (k := 17) (a := zbzyx80e) rfl
theorem zyx80 {l : Launch} {D : va_G} {tys : List (ClassId × FieldType)} {o : zO} {z : Nat} (E : zEnv tys) : zKnW l D vwCl tys o z (zXX o z) zTs zprog2 zyx80d :=
  zkn_mk E (fun g => List.forall_mem_cons.mpr ⟨zyx73 (o := zwith o g) E, List.forall_mem_cons.mpr ⟨zyx79 (o := zwith o g) E, fun _ h => absurd h List.not_mem_nil⟩⟩) (show zget zprog2 265 = some m2X8_product from rfl) rfl (by decide) (by decide) (by decide) (by decide) (G := [zyx80q, zyx74q, zyx68q, zyx62q, zyx56q, zyx50q]) (List.forall_mem_cons.mpr ⟨zyx80k E, List.forall_mem_cons.mpr ⟨zyx74k E, List.forall_mem_cons.mpr ⟨zyx68k E, List.forall_mem_cons.mpr ⟨zyx62k E, List.forall_mem_cons.mpr ⟨zyx56k E, List.forall_mem_cons.mpr ⟨zyx50k E, fun _ h => absurd h List.not_mem_nil⟩⟩⟩⟩⟩⟩) zyx80e
theorem zyx81c : zchkX [(94, 15)] zprog2 (zovW [zyx74d, zyx80d]) 100000 kX8_sum [zyx75q, zyx69q, zyx63q, zyx57q, zyx51q] [zyx81q] [zyx81q] = true := zall_ok zyg4_ok (k := 18) (a := zbzyx81c) rfl
theorem zyx81k {l : Launch} {D : va_G} {tys : List (ClassId × FieldType)} {o : zO} {z : Nat} (E : zEnv tys) : zPtOk l D vwCl tys o z (zXX o z) zTs mX8_sum zyx81q := zkn_pt E (fun g => List.forall_mem_cons.mpr ⟨zyx74 (o := zwith o g) E, List.forall_mem_cons.mpr ⟨zyx80 (o := zwith o g) E, fun _ h => absurd h List.not_mem_nil⟩⟩) (show zget zprog2 284 = some mX8_sum from rfl) (List.forall_mem_cons.mpr ⟨zyx75k E, List.forall_mem_cons.mpr ⟨zyx69k E, List.forall_mem_cons.mpr ⟨zyx63k E, List.forall_mem_cons.mpr ⟨zyx57k E, List.forall_mem_cons.mpr ⟨zyx51k E, fun _ h => absurd h List.not_mem_nil⟩⟩⟩⟩⟩) zyx81c _ List.mem_cons_self
theorem zyx81e : zrunw zprog2 (zovW [zyx74d, zyx80d]) 100000 (zcutW [(94, 15)] none ((zyx81r, zyh277), 26, 3180) [zyx81q, zyx75q, zyx69q, zyx63q, zyx57q, zyx51q]) 26 3180 kX8_sum (zkin zyx81r zyh277) 0 (zargs 0 zyx81a, [], (zyh276.1, zyh276.2.1, 0), 0, 0) = true := zall_ok zyg4_ok (k := 19) (a := zbzyx81e) rfl
theorem zyx81 {l : Launch} {D : va_G} {tys : List (ClassId × FieldType)} {o : zO} {z : Nat} (E : zEnv tys) : zKnW l D vwCl tys o z (zXX o z) zTs zprog2 zyx81d :=
  zkn_mk E (fun g => List.forall_mem_cons.mpr ⟨zyx74 (o := zwith o g) E, List.forall_mem_cons.mpr ⟨zyx80 (o := zwith o g) E, fun _ h => absurd h List.not_mem_nil⟩⟩) (show zget zprog2 284 = some mX8_sum from rfl) rfl (by decide) (by decide) (by decide) (by decide) (G := [zyx81q, zyx75q, zyx69q, zyx63q, zyx57q, zyx51q]) (List.forall_mem_cons.mpr ⟨zyx81k E, List.forall_mem_cons.mpr ⟨zyx75k E, List.forall_mem_cons.mpr ⟨zyx69k E, List.forall_mem_cons.mpr ⟨zyx63k E, List.forall_mem_cons.mpr ⟨zyx57k E, List.forall_mem_cons.mpr ⟨zyx51k E, fun _ h => absurd h List.not_mem_nil⟩⟩⟩⟩⟩⟩) zyx81e
theorem zyx82e : zrunw zprog2 (zovW [zyx75d, zyx81d, zyx43d]) 100000 (zcutW [] none ((zyx82r, zyh277), 27, 3300) []) 27 3300 kX8_heldBy (zkin zyx82r zyh277) 0 (zargs 0 zyx82a, [], (zyh276.1, zyh276.2.1, 0), 0, 0) = true := zall_ok zyg4_ok (k := 20) (a := zbzyx82e) rfl
theorem zyx82 {l : Launch} {D : va_G} {tys : List (ClassId × FieldType)} {o : zO} {z : Nat} (E : zEnv tys) : zKnW l D vwCl tys o z (zXX o z) zTs zprog2 zyx82d :=
  zkn_mk E (fun g => List.forall_mem_cons.mpr ⟨zyx75 (o := zwith o g) E, List.forall_mem_cons.mpr ⟨zyx81 (o := zwith o g) E, List.forall_mem_cons.mpr ⟨zyx43 (o := zwith o g) E, fun _ h => absurd h List.not_mem_nil⟩⟩⟩) (show zget zprog2 229 = some mX8_heldBy from rfl) rfl (by decide) (by decide) (by decide) (by decide) (G := []) (fun _ h => absurd h List.not_mem_nil) zyx82e
theorem zyx83e : zrunw zprog2 (zovW []) 100000 zcut0 4 480 kX8_oneOf (zkinL zyx83q) 0 (zargs 0 zyx83a, [], (zyh273.1, zyh273.2.1, 0), 0, 0) = true := zall_ok zyg4_ok (k := 21) (a := zbzyx83e) rfl
theorem zyx83 {l : Launch} {D : va_G} {tys : List (ClassId × FieldType)} {o : zO} {z : Nat} (E : zEnv tys) : zKnW l D vwCl tys o z (zXX o z) zTs zprog2 zyx83d :=
  zkn_ml E (fun g => fun _ h => absurd h List.not_mem_nil) (show zget zprog2 260 = some mX8_oneOf from rfl) rfl (by decide) (by decide) (by decide) (by decide) zyx83e
theorem zyx84c0 : zchkX [] zprog2 (zovW [zyx83d]) 100000 kX8_number [] [zyx84q0] [zyx84q0] = true := zall_ok zyg4_ok (k := 22) (a := zbzyx84c0) rfl
theorem zyx84_k0 {l : Launch} {D : va_G} {tys : List (ClassId × FieldType)} {o : zO} {z : Nat} (E : zEnv tys) : zPtOk l D vwCl tys o z (zXX o z) zTs mX8_number zyx84q0 := zkn_pt E (fun g => List.forall_mem_cons.mpr ⟨zyx83 (o := zwith o g) E, fun _ h => absurd h List.not_mem_nil⟩) (show zget zprog2 259 = some mX8_number from rfl) (fun _ h => absurd h List.not_mem_nil) zyx84c0 _ (List.mem_of_getElem? (i := 0) rfl)
theorem zyx84e : zrunw zprog2 (zovW [zyx83d]) 100000 (zcutW [] none ((zyx84r, zyh274), 5, 600) [zyx84q0]) 5 600 kX8_number (zkin zyx84r zyh274) 0 (zargs 0 zyx84a, [], (zyh273.1, zyh273.2.1, 0), 0, 0) = true := zall_ok zyg4_ok (k := 23) (a := zbzyx84e) rfl
theorem zyx84 {l : Launch} {D : va_G} {tys : List (ClassId × FieldType)} {o : zO} {z : Nat} (E : zEnv tys) : zKnW l D vwCl tys o z (zXX o z) zTs zprog2 zyx84d :=
  zkn_mk E (fun g => List.forall_mem_cons.mpr ⟨zyx83 (o := zwith o g) E, fun _ h => absurd h List.not_mem_nil⟩) (show zget zprog2 259 = some mX8_number from rfl) rfl (by decide) (by decide) (by decide) (by decide) (G := [zyx84q0]) (List.forall_mem_cons.mpr ⟨zyx84_k0 E, fun _ h => absurd h List.not_mem_nil⟩) zyx84e
theorem zyx85e : zrunw zprog2 (zovW [zyx82d, zyx79d, zyx43d, zyx84d, zyx42d]) 100000 (zcutW [] none ((zyx85r, zyh274), 28, 3420) []) 28 3420 k2X8_thing (zkin zyx85r zyh274) 0 (zargs 0 zyx85a, [], (zyh273.1, zyh273.2.1, 0), 0, 0) = true := zall_ok zyg4_ok (k := 24) (a := zbzyx85e) rfl
theorem zyx85 {l : Launch} {D : va_G} {tys : List (ClassId × FieldType)} {o : zO} {z : Nat} (E : zEnv tys) : zKnW l D vwCl tys o z (zXX o z) zTs zprog2 zyx85d :=
  zkn_mk E (fun g => List.forall_mem_cons.mpr ⟨zyx82 (o := zwith o g) E, List.forall_mem_cons.mpr ⟨zyx79 (o := zwith o g) E, List.forall_mem_cons.mpr ⟨zyx43 (o := zwith o g) E, List.forall_mem_cons.mpr ⟨zyx84 (o := zwith o g) E, List.forall_mem_cons.mpr ⟨zyx42 (o := zwith o g) E, fun _ h => absurd h List.not_mem_nil⟩⟩⟩⟩⟩) (show zget zprog2 292 = some m2X8_thing from rfl) rfl (by decide) (by decide) (by decide) (by decide) (G := []) (fun _ h => absurd h List.not_mem_nil) zyx85e
theorem zyx86c : zchkX [(94, 15)] zprog2 (zovW [zyx79d, zyx85d]) 100000 k2X8_product [zyx80q, zyx74q, zyx68q, zyx62q, zyx56q, zyx50q] [zyx86q] [zyx86q] = true := zall_ok zyg4_ok (k := 25) (a := zbzyx86c) rfl
theorem zyx86k {l : Launch} {D : va_G} {tys : List (ClassId × FieldType)} {o : zO} {z : Nat} (E : zEnv tys) : zPtOk l D vwCl tys o z (zXX o z) zTs m2X8_product zyx86q := zkn_pt E (fun g => List.forall_mem_cons.mpr ⟨zyx79 (o := zwith o g) E, List.forall_mem_cons.mpr ⟨zyx85 (o := zwith o g) E, fun _ h => absurd h List.not_mem_nil⟩⟩) (show zget zprog2 265 = some m2X8_product from rfl) (List.forall_mem_cons.mpr ⟨zyx80k E, List.forall_mem_cons.mpr ⟨zyx74k E, List.forall_mem_cons.mpr ⟨zyx68k E, List.forall_mem_cons.mpr ⟨zyx62k E, List.forall_mem_cons.mpr ⟨zyx56k E, List.forall_mem_cons.mpr ⟨zyx50k E, fun _ h => absurd h List.not_mem_nil⟩⟩⟩⟩⟩⟩) zyx86c _ List.mem_cons_self
theorem zyx86e : zrunw zprog2 (zovW [zyx79d, zyx85d]) 100000 (zcutW [(94, 15)] none ((zyx86r, zyh274), 29, 3540) [zyx86q, zyx80q, zyx74q, zyx68q, zyx62q, zyx56q, zyx50q]) 29 3540 k2X8_product (zkin zyx86r zyh274) 0 (zargs 0 zyx86a, [], (zyh273.1, zyh273.2.1, 0), 0, 0) = true := zall_ok zyg4_ok (k := 26) (a := zbzyx86e) rfl
theorem zyx86 {l : Launch} {D : va_G} {tys : List (ClassId × FieldType)} {o : zO} {z : Nat} (E : zEnv tys) : zKnW l D vwCl tys o z (zXX o z) zTs zprog2 zyx86d :=
  zkn_mk E (fun g => List.forall_mem_cons.mpr ⟨zyx79 (o := zwith o g) E, List.forall_mem_cons.mpr ⟨zyx85 (o := zwith o g) E, fun _ h => absurd h List.not_mem_nil⟩⟩) (show zget zprog2 265 = some m2X8_product from rfl) rfl (by decide) (by decide) (by decide) (by decide) (G := [zyx86q, zyx80q, zyx74q, zyx68q, zyx62q, zyx56q, zyx50q]) (List.forall_mem_cons.mpr ⟨zyx86k E, List.forall_mem_cons.mpr ⟨zyx80k E, List.forall_mem_cons.mpr ⟨zyx74k E, List.forall_mem_cons.mpr ⟨zyx68k E, List.forall_mem_cons.mpr ⟨zyx62k E, List.forall_mem_cons.mpr ⟨zyx56k E, List.forall_mem_cons.mpr ⟨zyx50k E, fun _ h => absurd h List.not_mem_nil⟩⟩⟩⟩⟩⟩⟩) zyx86e
theorem zyx87c : zchkX [(94, 15)] zprog2 (zovW [zyx80d, zyx86d]) 100000 kX8_sum [zyx81q, zyx75q, zyx69q, zyx63q, zyx57q, zyx51q] [zyx87q] [zyx87q] = true := zall_ok zyg4_ok (k := 27) (a := zbzyx87c) rfl
theorem zyx87k {l : Launch} {D : va_G} {tys : List (ClassId × FieldType)} {o : zO} {z : Nat} (E : zEnv tys) : zPtOk l D vwCl tys o z (zXX o z) zTs mX8_sum zyx87q := zkn_pt E (fun g => List.forall_mem_cons.mpr ⟨zyx80 (o := zwith o g) E, List.forall_mem_cons.mpr ⟨zyx86 (o := zwith o g) E, fun _ h => absurd h List.not_mem_nil⟩⟩) (show zget zprog2 284 = some mX8_sum from rfl) (List.forall_mem_cons.mpr ⟨zyx81k E, List.forall_mem_cons.mpr ⟨zyx75k E, List.forall_mem_cons.mpr ⟨zyx69k E, List.forall_mem_cons.mpr ⟨zyx63k E, List.forall_mem_cons.mpr ⟨zyx57k E, List.forall_mem_cons.mpr ⟨zyx51k E, fun _ h => absurd h List.not_mem_nil⟩⟩⟩⟩⟩⟩) zyx87c _ List.mem_cons_self
theorem zyx87e : zrunw zprog2 (zovW [zyx80d, zyx86d]) 100000 (zcutW [(94, 15)] none ((zyx87r, zyh274), 30, 3660) [zyx87q, zyx81q, zyx75q, zyx69q, zyx63q, zyx57q, zyx51q]) 30 3660 kX8_sum (zkin zyx87r zyh274) 0 (zargs 0 zyx87a, [], (zyh273.1, zyh273.2.1, 0), 0, 0) = true := zall_ok zyg4_ok (k := 28) (a := zbzyx87e) rfl
theorem zyx87 {l : Launch} {D : va_G} {tys : List (ClassId × FieldType)} {o : zO} {z : Nat} (E : zEnv tys) : zKnW l D vwCl tys o z (zXX o z) zTs zprog2 zyx87d :=
  zkn_mk E (fun g => List.forall_mem_cons.mpr ⟨zyx80 (o := zwith o g) E, List.forall_mem_cons.mpr ⟨zyx86 (o := zwith o g) E, fun _ h => absurd h List.not_mem_nil⟩⟩) (show zget zprog2 284 = some mX8_sum from rfl) rfl (by decide) (by decide) (by decide) (by decide) (G := [zyx87q, zyx81q, zyx75q, zyx69q, zyx63q, zyx57q, zyx51q]) (List.forall_mem_cons.mpr ⟨zyx87k E, List.forall_mem_cons.mpr ⟨zyx81k E, List.forall_mem_cons.mpr ⟨zyx75k E, List.forall_mem_cons.mpr ⟨zyx69k E, List.forall_mem_cons.mpr ⟨zyx63k E, List.forall_mem_cons.mpr ⟨zyx57k E, List.forall_mem_cons.mpr ⟨zyx51k E, fun _ h => absurd h List.not_mem_nil⟩⟩⟩⟩⟩⟩⟩) zyx87e
theorem zyx88e : zrunw zprog2 (zovW [zyx81d, zyx87d, zyx42d]) 100000 (zcutW [] none ((zyx88r, zyh274), 31, 3780) []) 31 3780 kX8_heldBy (zkin zyx88r zyh274) 0 (zargs 0 zyx88a, [], (zyh273.1, zyh273.2.1, 0), 0, 0) = true := zall_ok zyg4_ok (k := 29) (a := zbzyx88e) rfl
theorem zyx88 {l : Launch} {D : va_G} {tys : List (ClassId × FieldType)} {o : zO} {z : Nat} (E : zEnv tys) : zKnW l D vwCl tys o z (zXX o z) zTs zprog2 zyx88d :=
  zkn_mk E (fun g => List.forall_mem_cons.mpr ⟨zyx81 (o := zwith o g) E, List.forall_mem_cons.mpr ⟨zyx87 (o := zwith o g) E, List.forall_mem_cons.mpr ⟨zyx42 (o := zwith o g) E, fun _ h => absurd h List.not_mem_nil⟩⟩⟩) (show zget zprog2 229 = some mX8_heldBy from rfl) rfl (by decide) (by decide) (by decide) (by decide) (G := []) (fun _ h => absurd h List.not_mem_nil) zyx88e
theorem zyx89e : zrunw zprog2 (zovW []) 100000 zcut0 4 480 kX8_oneOf (zkinL zyx89q) 0 (zargs 0 zyx89a, [], (zyh270.1, zyh270.2.1, 0), 0, 0) = true := zall_ok zyg4_ok (k := 30) (a := zbzyx89e) rfl
theorem zyx89 {l : Launch} {D : va_G} {tys : List (ClassId × FieldType)} {o : zO} {z : Nat} (E : zEnv tys) : zKnW l D vwCl tys o z (zXX o z) zTs zprog2 zyx89d :=
  zkn_ml E (fun g => fun _ h => absurd h List.not_mem_nil) (show zget zprog2 260 = some mX8_oneOf from rfl) rfl (by decide) (by decide) (by decide) (by decide) zyx89e
theorem zyx90c0 : zchkX [] zprog2 (zovW [zyx89d]) 100000 kX8_number [] [zyx90q0] [zyx90q0] = true := zall_ok zyg4_ok (k := 31) (a := zbzyx90c0) rfl
theorem zyx90_k0 {l : Launch} {D : va_G} {tys : List (ClassId × FieldType)} {o : zO} {z : Nat} (E : zEnv tys) : zPtOk l D vwCl tys o z (zXX o z) zTs mX8_number zyx90q0 := zkn_pt E (fun g => List.forall_mem_cons.mpr ⟨zyx89 (o := zwith o g) E, fun _ h => absurd h List.not_mem_nil⟩) (show zget zprog2 259 = some mX8_number from rfl) (fun _ h => absurd h List.not_mem_nil) zyx90c0 _ (List.mem_of_getElem? (i := 0) rfl)
theorem zyx90e : zrunw zprog2 (zovW [zyx89d]) 100000 (zcutW [] none ((zyx90r, zyh271), 5, 600) [zyx90q0]) 5 600 kX8_number (zkin zyx90r zyh271) 0 (zargs 0 zyx90a, [], (zyh270.1, zyh270.2.1, 0), 0, 0) = true := zall_ok zyg4_ok (k := 32) (a := zbzyx90e) rfl
theorem zyx90 {l : Launch} {D : va_G} {tys : List (ClassId × FieldType)} {o : zO} {z : Nat} (E : zEnv tys) : zKnW l D vwCl tys o z (zXX o z) zTs zprog2 zyx90d :=
  zkn_mk E (fun g => List.forall_mem_cons.mpr ⟨zyx89 (o := zwith o g) E, fun _ h => absurd h List.not_mem_nil⟩) (show zget zprog2 259 = some mX8_number from rfl) rfl (by decide) (by decide) (by decide) (by decide) (G := [zyx90q0]) (List.forall_mem_cons.mpr ⟨zyx90_k0 E, fun _ h => absurd h List.not_mem_nil⟩) zyx90e
theorem zyx91e : zrunw zprog2 (zovW [zyx88d, zyx85d, zyx42d, zyx90d, zyx41d]) 100000 (zcutW [] none ((zyx91r, zyh271), 32, 3900) []) 32 3900 k2X8_thing (zkin zyx91r zyh271) 0 (zargs 0 zyx91a, [], (zyh270.1, zyh270.2.1, 0), 0, 0) = true := zall_ok zyg4_ok (k := 33) (a := zbzyx91e) rfl
theorem zyx91 {l : Launch} {D : va_G} {tys : List (ClassId × FieldType)} {o : zO} {z : Nat} (E : zEnv tys) : zKnW l D vwCl tys o z (zXX o z) zTs zprog2 zyx91d :=
  zkn_mk E (fun g => List.forall_mem_cons.mpr ⟨zyx88 (o := zwith o g) E, List.forall_mem_cons.mpr ⟨zyx85 (o := zwith o g) E, List.forall_mem_cons.mpr ⟨zyx42 (o := zwith o g) E, List.forall_mem_cons.mpr ⟨zyx90 (o := zwith o g) E, List.forall_mem_cons.mpr ⟨zyx41 (o := zwith o g) E, fun _ h => absurd h List.not_mem_nil⟩⟩⟩⟩⟩) (show zget zprog2 292 = some m2X8_thing from rfl) rfl (by decide) (by decide) (by decide) (by decide) (G := []) (fun _ h => absurd h List.not_mem_nil) zyx91e
theorem zyx92c : zchkX [(94, 15)] zprog2 (zovW [zyx85d, zyx91d]) 100000 k2X8_product [zyx86q, zyx80q, zyx74q, zyx68q, zyx62q, zyx56q, zyx50q] [zyx92q] [zyx92q] = true := zall_ok zyg4_ok (k := 34) (a := zbzyx92c) rfl
theorem zyx92k {l : Launch} {D : va_G} {tys : List (ClassId × FieldType)} {o : zO} {z : Nat} (E : zEnv tys) : zPtOk l D vwCl tys o z (zXX o z) zTs m2X8_product zyx92q := zkn_pt E (fun g => List.forall_mem_cons.mpr ⟨zyx85 (o := zwith o g) E, List.forall_mem_cons.mpr ⟨zyx91 (o := zwith o g) E, fun _ h => absurd h List.not_mem_nil⟩⟩) (show zget zprog2 265 = some m2X8_product from rfl) (List.forall_mem_cons.mpr ⟨zyx86k E, List.forall_mem_cons.mpr ⟨zyx80k E, List.forall_mem_cons.mpr ⟨zyx74k E, List.forall_mem_cons.mpr ⟨zyx68k E, List.forall_mem_cons.mpr ⟨zyx62k E, List.forall_mem_cons.mpr ⟨zyx56k E, List.forall_mem_cons.mpr ⟨zyx50k E, fun _ h => absurd h List.not_mem_nil⟩⟩⟩⟩⟩⟩⟩) zyx92c _ List.mem_cons_self
theorem zyx92e : zrunw zprog2 (zovW [zyx85d, zyx91d]) 100000 (zcutW [(94, 15)] none ((zyx92r, zyh271), 33, 4020) [zyx92q, zyx86q, zyx80q, zyx74q, zyx68q, zyx62q, zyx56q, zyx50q]) 33 4020 k2X8_product (zkin zyx92r zyh271) 0 (zargs 0 zyx92a, [], (zyh270.1, zyh270.2.1, 0), 0, 0) = true := zall_ok zyg4_ok (k := 35) (a := zbzyx92e) rfl
theorem zyx92 {l : Launch} {D : va_G} {tys : List (ClassId × FieldType)} {o : zO} {z : Nat} (E : zEnv tys) : zKnW l D vwCl tys o z (zXX o z) zTs zprog2 zyx92d :=
  zkn_mk E (fun g => List.forall_mem_cons.mpr ⟨zyx85 (o := zwith o g) E, List.forall_mem_cons.mpr ⟨zyx91 (o := zwith o g) E, fun _ h => absurd h List.not_mem_nil⟩⟩) (show zget zprog2 265 = some m2X8_product from rfl) rfl (by decide) (by decide) (by decide) (by decide) (G := [zyx92q, zyx86q, zyx80q, zyx74q, zyx68q, zyx62q, zyx56q, zyx50q]) (List.forall_mem_cons.mpr ⟨zyx92k E, List.forall_mem_cons.mpr ⟨zyx86k E, List.forall_mem_cons.mpr ⟨zyx80k E, List.forall_mem_cons.mpr ⟨zyx74k E, List.forall_mem_cons.mpr ⟨zyx68k E, List.forall_mem_cons.mpr ⟨zyx62k E, List.forall_mem_cons.mpr ⟨zyx56k E, List.forall_mem_cons.mpr ⟨zyx50k E, fun _ h => absurd h List.not_mem_nil⟩⟩⟩⟩⟩⟩⟩⟩) zyx92e

