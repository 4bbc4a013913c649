noncomputable def zyc383 : zC := .inr (8, [zyv114, zyv15, zyv15, zyv15, zyv114, zyv114, zyv114, zyv114, zyv15, zyv114, zyv15, zyv15, zyv121, zyv17, zyv317, zyv356, zyv17, zyv114, zyv114, zyv114, zyv15, zyv36, zyv129, zyv114, zyv15, zyv114, zyv114, zyv15, zyv15, zyv114, zyv114, zyv114, zyv114, zyv114, zyv114, zyv114, zyv114, zyv114, zyv114, zyv15, zyv114, zyv114, zyv114, zyv114, zyv15, zyv15, zyv15, zyv15, zyv114, zyv114, zyv114])
noncomputable def zyr313 : List zC := [zyc60, zyc60, zyc60, zyc69, zyc10, zyc10, zyc10, zyc12, zyc70, zyc8, zyc8, zyc70, zyc8, zyc8, zyc383, zyc52]
noncomputable def zyh1318 : zH := (126, [zyr9, zyr10, zyr11, zyr12, zyr13, zyr313, zyr6, zyr7], zym9)
noncomputable def zyc384 : zC := .inr (8, [zyv114, zyv15, zyv15, zyv15, zyv114, zyv114, zyv114, zyv114, zyv15, zyv114, zyv15, zyv15, zyv121, zyv17, zyv317, zyv355, zyv17, zyv114, zyv114, zyv114, zyv15, zyv36, zyv129, zyv114, zyv15, zyv114, zyv114, zyv15, zyv15, zyv114, zyv114, zyv114, zyv114, zyv114, zyv114, zyv114, zyv114, zyv114, zyv114, zyv15, zyv114, zyv114, zyv114, zyv114, zyv15, zyv15, zyv15, zyv15, zyv114, zyv114, zyv114])
noncomputable def zyr314 : List zC := [zyc60, zyc60, zyc60, zyc69, zyc10, zyc10, zyc10, zyc12, zyc70, zyc8, zyc8, zyc70, zyc8, zyc8, zyc384, zyc52]
noncomputable def zyh1319 : zH := (126, [zyr9, zyr10, zyr11, zyr12, zyr13, zyr314, zyr6, zyr7], zym9)
noncomputable def zyc385 : zC := .inr (8, [zyv114, zyv15, zyv15, zyv15, zyv114, zyv114, zyv114, zyv114, zyv15, zyv114, zyv15, zyv15, zyv121, zyv17, zyv317, zyv354, zyv17, zyv114, zyv114, zyv114, zyv15, zyv36, zyv129, zyv114, zyv15, zyv114, zyv114, zyv15, zyv15, zyv114, zyv114, zyv114, zyv114, zyv114, zyv114, zyv114, zyv114, zyv114, zyv114, zyv15, zyv114, zyv114, zyv114, zyv114, zyv15, zyv15, zyv15, zyv15, zyv114, zyv114, zyv114])
noncomputable def zyr315 : List zC := [zyc60, zyc60, zyc60, zyc69, zyc10, zyc10, zyc10, zyc12, zyc70, zyc8, zyc8, zyc70, zyc8, zyc8, zyc385, zyc52]
noncomputable def zyh1320 : zH := (126, [zyr9, zyr10, zyr11, zyr12, zyr13, zyr315, zyr6, zyr7], zym9)
noncomputable def zyc386 : zC := .inr (8, [zyv114, zyv15, zyv15, zyv15, zyv114, zyv114, zyv114, zyv114, zyv15, zyv114, zyv15, zyv15, zyv121, zyv17, zyv317, zyv353, zyv17, zyv114, zyv114, zyv114, zyv15, zyv36, zyv129, zyv114, zyv15, zyv114, zyv114, zyv15, zyv15, zyv114, zyv114, zyv114, zyv114, zyv114, zyv114, zyv114, zyv114, zyv114, zyv114, zyv15, zyv114, zyv114, zyv114, zyv114, zyv15, zyv15, zyv15, zyv15, zyv114, zyv114, zyv114])
noncomputable def zyr316 : List zC := [zyc60, zyc60, zyc60, zyc69, zyc10, zyc10, zyc10, zyc12, zyc70, zyc8, zyc8, zyc70, zyc8, zyc8, zyc386, zyc52]
noncomputable def zyh1321 : zH := (126, [zyr9, zyr10, zyr11, zyr12, zyr13, zyr316, zyr6, zyr7], zym9)
/-! X8_sum ((('r', 99), 40, 37),) -/
noncomputable def zyx76a : List zAV := [.inr (.inr (.inl 94)), .inl ((.ofNat 1, .ofNat 4), none)]
def zyx76r : Option zAV := some (.inl ((.negSucc 2147483647, .ofNat 2147483647), none))
noncomputable def zyx76q : zPw := ((6, ([(0, .inr (.inr (.inl 94))), (1, .inl ((.ofNat 0, .ofNat 4), some (1, .ofNat 0))), (2, .inl ((.negSucc 2147483647, .ofNat 2147483647), some (2, .ofNat 0)))], [], zyh1305, 0, 0), [], 0), (zyx76r, zyh1305), 18, 2220)
noncomputable def zbzyx76c : Bool := zchkX [(94, 15)] zprog2 (zovW [zyx69d, zyx75d]) 100000 kX8_sum [zyx70q, zyx64q, zyx58q] [zyx76q] [zyx76q]
noncomputable def zyx76d : zKw := (284, 5, 18, 2220, zyx76a, zyh1304, [(zyx76r, zyh1305)])
noncomputable def zbzyx76e : Bool := zrunw zprog2 (zovW [zyx69d, zyx75d]) 100000 (zcutW [(94, 15)] none ((zyx76r, zyh1305), 18, 2220) [zyx76q, zyx70q, zyx64q, zyx58q]) 18 2220 kX8_sum (zkin zyx76r zyh1305) 0 (zargs 0 zyx76a, [], (zyh1304.1, zyh1304.2.1, 0), 0, 0)
/-! X8_heldBy -/
noncomputable def zyx77a : List zAV := [.inr (.inr (.inl 94)), .inl ((.ofNat 1, .ofNat 4), none)]
def zyx77r : Option zAV := some (.inl ((.negSucc 2147483647, .ofNat 2147483647), none))
noncomputable def zyx77d : zKw := (229, 3, 19, 2340, zyx77a, zyh1304, [(zyx77r, zyh1305)])
noncomputable def zbzyx77e : Bool := zrunw zprog2 (zovW [zyx70d, zyx76d, zyx52d]) 100000 (zcutW [] none ((zyx77r, zyh1305), 19, 2340) []) 19 2340 kX8_heldBy (zkin zyx77r zyh1305) 0 (zargs 0 zyx77a, [], (zyh1304.1, zyh1304.2.1, 0), 0, 0)
/-! X8_oneOf -/
noncomputable def zyx78a : List zAV := [zyv318, zyv360, zyv361]
noncomputable def zyx78q : List (Option zAV × zH) := [(some (.inl ((.ofNat 0, .ofNat 0), none)), zyh1318), (some (.inl ((.negSucc 175, .ofNat 79), none)), zyh1303)]
noncomputable def zyx78d : zKw := (260, 3, 4, 480, zyx78a, zyh1301, zyx78q)
noncomputable def zbzyx78e : Bool := zrunw zprog2 (zovW []) 100000 zcut0 4 480 kX8_oneOf (zkinL zyx78q) 0 (zargs 0 zyx78a, [], (zyh1301.1, zyh1301.2.1, 0), 0, 0)
/-! X8_number -/
noncomputable def zyx79a : List zAV := [.inr (.inr (.inl 94)), .inl ((.ofNat 3, .ofNat 3), none)]
def zyx79r : Option zAV := some (.inl ((.negSucc 2147483647, .ofNat 2147483647), none))
noncomputable def zyx79q0 : zPw := ((11, ([(0, .inr (.inr (.inl 94))), (1, .inl ((.ofNat 3, .ofNat 3), some (1, .ofNat 0))), (2, .inl ((.negSucc 2147483647, .ofNat 2147483647), some (2, .ofNat 0))), (3, .inl ((.ofNat 1, .ofNat 3), some (3, .ofNat 0)))], [], zyh1302, 0, 0), [(3, .negSucc 1)], .ofNat 7), (zyx79r, zyh1302), 5, 600)
noncomputable def zbzyx79c0 : Bool := zchkX [] zprog2 (zovW [zyx78d]) 100000 kX8_number [] [zyx79q0] [zyx79q0]
noncomputable def zyx79d : zKw := (259, 4, 5, 600, zyx79a, zyh1301, [(zyx79r, zyh1302)])
noncomputable def zbzyx79e : Bool := zrunw zprog2 (zovW [zyx78d]) 100000 (zcutW [] none ((zyx79r, zyh1302), 5, 600) [zyx79q0]) 5 600 kX8_number (zkin zyx79r zyh1302) 0 (zargs 0 zyx79a, [], (zyh1301.1, zyh1301.2.1, 0), 0, 0)
/-! X8_thing -/
noncomputable def zyx80a : List zAV := [.inr (.inr (.inl 94)), .inl ((.ofNat 0, .ofNat 4), none)]
def zyx80r : Option zAV := some (.inl ((.negSucc 2147483647, .ofNat 2147483647), none))
noncomputable def zyx80d : zKw := (292, 4, 20, 2460, zyx80a, zyh1301, [(zyx80r, zyh1302)])
noncomputable def zbzyx80e : Bool := zrunw zprog2 (zovW [zyx77d, zyx74d, zyx52d, zyx79d, zyx51d]) 100000 (zcutW [] none ((zyx80r, zyh1302), 20, 2460) []) 20 2460 k2X8_thing (zkin zyx80r zyh1302) 0 (zargs 0 zyx80a, [], (zyh1301.1, zyh1301.2.1, 0), 0, 0)
/-! X8_product ((('r', 99), 40, 36),) -/
noncomputable def zyx81a : List zAV := [.inr (.inr (.inl 94)), .inl ((.ofNat 0, .ofNat 4), none)]
def zyx81r : Option zAV := some (.inl ((.negSucc 2147483647, .ofNat 2147483647), none))
noncomputable def zyx81q : zPw := ((6, ([(0, .inr (.inr (.inl 94))), (1, .inl ((.ofNat 0, .ofNat 4), some (1, .ofNat 0))), (2, .inl ((.negSucc 2147483647, .ofNat 2147483647), some (2, .ofNat 0)))], [], zyh1302, 0, 0), [], 0), (zyx81r, zyh1302), 21, 2580)
noncomputable def zbzyx81c : Bool := zchkX [(94, 15)] zprog2 (zovW [zyx74d, zyx80d]) 100000 k2X8_product [zyx75q, zyx69q, zyx63q, zyx57q] [zyx81q] [zyx81q]
noncomputable def zyx81d : zKw := (265, 5, 21, 2580, zyx81a, zyh1301, [(zyx81r, zyh1302)])
noncomputable def zbzyx81e : Bool := zrunw zprog2 (zovW [zyx74d, zyx80d]) 100000 (zcutW [(94, 15)] none ((zyx81r, zyh1302), 21, 2580) [zyx81q, zyx75q, zyx69q, zyx63q, zyx57q]) 21 2580 k2X8_product (zkin zyx81r zyh1302) 0 (zargs 0 zyx81a, [], (zyh1301.1, zyh1301.2.1, 0), 0, 0)
/-! X8_sum ((('r', 99), 40, 36),) -/
noncomputable def zyx82a : List zAV := [.inr (.inr (.inl 94)), .inl ((.ofNat 1, .ofNat 4), none)]
def zyx82r : Option zAV := some (.inl ((.negSucc 2147483647, .ofNat 2147483647), none))
noncomputable def zyx82q : zPw := ((6, ([(0, .inr (.inr (.inl 94))), (1, .inl ((.ofNat 0, .ofNat 4), some (1, .ofNat 0))), (2, .inl ((.negSucc 2147483647, .ofNat 2147483647), some (2, .ofNat 0)))], [], zyh1302, 0, 0), [], 0), (zyx82r, zyh1302), 22, 2700)
noncomputable def zbzyx82c : Bool := zchkX [(94, 15)] zprog2 (zovW [zyx75d, zyx81d]) 100000 kX8_sum [zyx76q, zyx70q, zyx64q, zyx58q] [zyx82q] [zyx82q]
noncomputable def zyx82d : zKw := (284, 5, 22, 2700, zyx82a, zyh1301, [(zyx82r, zyh1302)])
noncomputable def zbzyx82e : Bool := zrunw zprog2 (zovW [zyx75d, zyx81d]) 100000 (zcutW [(94, 15)] none ((zyx82r, zyh1302), 22, 2700) [zyx82q, zyx76q, zyx70q, zyx64q, zyx58q]) 22 2700 kX8_sum (zkin zyx82r zyh1302) 0 (zargs 0 zyx82a, [], (zyh1301.1, zyh1301.2.1, 0), 0, 0)
/-! X8_heldBy -/
noncomputable def zyx83a : List zAV := [.inr (.inr (.inl 94)), .inl ((.ofNat 1, .ofNat 4), none)]
def zyx83r : Option zAV := some (.inl ((.negSucc 2147483647, .ofNat 2147483647), none))
noncomputable def zyx83d : zKw := (229, 3, 23, 2820, zyx83a, zyh1301, [(zyx83r, zyh1302)])
noncomputable def zbzyx83e : Bool := zrunw zprog2 (zovW [zyx76d, zyx82d, zyx51d]) 100000 (zcutW [] none ((zyx83r, zyh1302), 23, 2820) []) 23 2820 kX8_heldBy (zkin zyx83r zyh1302) 0 (zargs 0 zyx83a, [], (zyh1301.1, zyh1301.2.1, 0), 0, 0)
/-! X8_oneOf -/
noncomputable def zyx84a : List zAV := [zyv318, zyv360, zyv361]
noncomputable def zyx84q : List (Option zAV × zH) := [(some (.inl ((.ofNat 0, .ofNat 0), none)), zyh1319), (some (.inl ((.negSucc 175, .ofNat 79), none)), zyh1300)]
noncomputable def zyx84d : zKw := (260, 3, 4, 480, zyx84a, zyh1298, zyx84q)
noncomputable def zbzyx84e : Bool := zrunw zprog2 (zovW []) 100000 zcut0 4 480 kX8_oneOf (zkinL zyx84q) 0 (zargs 0 zyx84a, [], (zyh1298.1, zyh1298.2.1, 0), 0, 0)
/-! X8_number -/
noncomputable def zyx85a : List zAV := [.inr (.inr (.inl 94)), .inl ((.ofNat 3, .ofNat 3), none)]
def zyx85r : Option zAV := some (.inl ((.negSucc 2147483647, .ofNat 2147483647), none))
noncomputable def zyx85q0 : zPw := ((11, ([(0, .inr (.inr (.inl 94))), (1, .inl ((.ofNat 3, .ofNat 3), some (1, .ofNat 0))), (2, .inl ((.negSucc 2147483647, .ofNat 2147483647), some (2, .ofNat 0))), (3, .inl ((.ofNat 1, .ofNat 3), some (3, .ofNat 0)))], [], zyh1299, 0, 0), [(3, .negSucc 1)], .ofNat 7), (zyx85r, zyh1299), 5, 600)
noncomputable def zbzyx85c0 : Bool := zchkX [] zprog2 (zovW [zyx84d]) 100000 kX8_number [] [zyx85q0] [zyx85q0]
noncomputable def zyx85d : zKw := (259, 4, 5, 600, zyx85a, zyh1298, [(zyx85r, zyh1299)])
noncomputable def zbzyx85e : Bool := zrunw zprog2 (zovW [zyx84d]) 100000 (zcutW [] none ((zyx85r, zyh1299), 5, 600) [zyx85q0]) 5 600 kX8_number (zkin zyx85r zyh1299) 0 (zargs 0 zyx85a, [], (zyh1298.1, zyh1298.2.1, 0), 0, 0)
/-! X8_thing -/
noncomputable def zyx86a : List zAV := [.inr (.inr (.inl 94)), .inl ((.ofNat 0, .ofNat 4), none)]
def zyx86r : Option zAV := some (.inl ((.negSucc 2147483647, .ofNat 2147483647), none))
noncomputable def zyx86d : zKw := (292, 4, 24, 2940, zyx86a, zyh1298, [(zyx86r, zyh1299)])
noncomputable def zbzyx86e : Bool := zrunw zprog2 (zovW [zyx83d, zyx80d, zyx51d, zyx85d, zyx50d]) 100000 (zcutW [] none ((zyx86r, zyh1299), 24, 2940) []) 24 2940 k2X8_thing (zkin zyx86r zyh1299) 0 (zargs 0 zyx86a, [], (zyh1298.1, zyh1298.2.1, 0), 0, 0)
/-! X8_product ((('r', 99), 40, 35),) -/
noncomputable def zyx87a : List zAV := [.inr (.inr (.inl 94)), .inl ((.ofNat 0, .ofNat 4), none)]
def zyx87r : Option zAV := some (.inl ((.negSucc 2147483647, .ofNat 2147483647), none))
noncomputable def zyx87q : zPw := ((6, ([(0, .inr (.inr (.inl 94))), (1, .inl ((.ofNat 0, .ofNat 4), some (1, .ofNat 0))), (2, .inl ((.negSucc 2147483647, .ofNat 2147483647), some (2, .ofNat 0)))], [], zyh1299, 0, 0), [], 0), (zyx87r, zyh1299), 25, 3060)
noncomputable def zbzyx87c : Bool := zchkX [(94, 15)] zprog2 (zovW [zyx80d, zyx86d]) 100000 k2X8_product [zyx81q, zyx75q, zyx69q, zyx63q, zyx57q] [zyx87q] [zyx87q]
noncomputable def zyx87d : zKw := (265, 5, 25, 3060, zyx87a, zyh1298, [(zyx87r, zyh1299)])
noncomputable def zbzyx87e : Bool := zrunw zprog2 (zovW [zyx80d, zyx86d]) 100000 (zcutW [(94, 15)] none ((zyx87r, zyh1299), 25, 3060) [zyx87q, zyx81q, zyx75q, zyx69q, zyx63q, zyx57q]) 25 3060 k2X8_product (zkin zyx87r zyh1299) 0 (zargs 0 zyx87a, [], (zyh1298.1, zyh1298.2.1, 0), 0, 0)
/-! X8_sum ((('r', 99), 40, 35),) -/
noncomputable def zyx88a : List zAV := [.inr (.inr (.inl 94)), .inl ((.ofNat 1, .ofNat 4), none)]
def zyx88r : Option zAV := some (.inl ((.negSucc 2147483647, .ofNat 2147483647), none))
noncomputable def zyx88q : zPw := ((6, ([(0, .inr (.inr (.inl 94))), (1, .inl ((.ofNat 0, .ofNat 4), some (1, .ofNat 0))), (2, .inl ((.negSucc 2147483647, .ofNat 2147483647), some (2, .ofNat 0)))], [], zyh1299, 0, 0), [], 0), (zyx88r, zyh1299), 26, 3180)
noncomputable def zbzyx88c : Bool := zchkX [(94, 15)] zprog2 (zovW [zyx81d, zyx87d]) 100000 kX8_sum [zyx82q, zyx76q, zyx70q, zyx64q, zyx58q] [zyx88q] [zyx88q]
noncomputable def zyx88d : zKw := (284, 5, 26, 3180, zyx88a, zyh1298, [(zyx88r, zyh1299)])
noncomputable def zbzyx88e : Bool := zrunw zprog2 (zovW [zyx81d, zyx87d]) 100000 (zcutW [(94, 15)] none ((zyx88r, zyh1299), 26, 3180) [zyx88q, zyx82q, zyx76q, zyx70q, zyx64q, zyx58q]) 26 3180 kX8_sum (zkin zyx88r zyh1299) 0 (zargs 0 zyx88a, [], (zyh1298.1, zyh1298.2.1, 0), 0, 0)
/-! X8_heldBy -/
noncomputable def zyx89a : List zAV := [.inr (.inr (.inl 94)), .inl ((.ofNat 1, .ofNat 4), none)]
def zyx89r : Option zAV := some (.inl ((.negSucc 2147483647, .ofNat 2147483647), none))
noncomputable def zyx89d : zKw := (229, 3, 27, 3300, zyx89a, zyh1298, [(zyx89r, zyh1299)])
noncomputable def zbzyx89e : Bool := zrunw zprog2 (zovW [zyx82d, zyx88d, zyx50d]) 100000 (zcutW [] none ((zyx89r, zyh1299), 27, 3300) []) 27 3300 kX8_heldBy (zkin zyx89r zyh1299) 0 (zargs 0 zyx89a, [], (zyh1298.1, zyh1298.2.1, 0), 0, 0)
/-! X8_oneOf -/
noncomputable def zyx90a : List zAV := [zyv318, zyv360, zyv361]
noncomputable def zyx90q : List (Option zAV × zH) := [(some (.inl ((.ofNat 0, .ofNat 0), none)), zyh1320), (some (.inl ((.negSucc 175, .ofNat 79), none)), zyh1297)]
noncomputable def zyx90d : zKw := (260, 3, 4, 480, zyx90a, zyh1295, zyx90q)
noncomputable def zbzyx90e : Bool := zrunw zprog2 (zovW []) 100000 zcut0 4 480 kX8_oneOf (zkinL zyx90q) 0 (zargs 0 zyx90a, [], (zyh1295.1, zyh1295.2.1, 0), 0, 0)
/-! X8_number -/
noncomputable def zyx91a : List zAV := [.inr (.inr (.inl 94)), .inl ((.ofNat 3, .ofNat 3), none)]
def zyx91r : Option zAV := some (.inl ((.negSucc 2147483647, .ofNat 2147483647), none))
noncomputable def zyx91q0 : zPw := ((11, ([(0, .inr (.inr (.inl 94))), (1, .inl ((.ofNat 3, .ofNat 3), some (1, .ofNat 0))), (2, .inl ((.negSucc 2147483647, .ofNat 2147483647), some (2, .ofNat 0))), (3, .inl ((.ofNat 1, .ofNat 3), some (3, .ofNat 0)))], [], zyh1296, 0, 0), [(3, .negSucc 1)], .ofNat 7), (zyx91r, zyh1296), 5, 600)
noncomputable def zbzyx91c0 : Bool := zchkX [] zprog2 (zovW [zyx90d]) 100000 kX8_number [] [zyx91q0] [zyx91q0]
noncomputable def zyx91d : zKw := (259, 4, 5, 600, zyx91a, zyh1295, [(zyx91r, zyh1296)])
noncomputable def zbzyx91e : Bool := zrunw zprog2 (zovW [zyx90d]) 100000 (zcutW [] none ((zyx91r, zyh1296), 5, 600) [zyx91q0]) 5 600 kX8_number (zkin zyx91r zyh1296) 0 (zargs 0 zyx91a, [], (zyh1295.1, zyh1295.2.1, 0), 0, 0)
/-! X8_thing -/
noncomputable def zyx92a : List zAV := [.inr (.inr (.inl 94)), .inl ((.ofNat 0, .ofNat 4), none)]
def zyx92r : Option zAV := some (.inl ((.negSucc 2147483647, .ofNat 2147483647), none))
noncomputable def zyx92d : zKw := (292, 4, 28, 3420, zyx92a, zyh1295, [(zyx92r, zyh1296)])
noncomputable def zbzyx92e : Bool := zrunw zprog2 (zovW [zyx89d, zyx86d, zyx50d, zyx91d, zyx49d]) 100000 (zcutW [] none ((zyx92r, zyh1296), 28, 3420) []) 28 3420 k2X8_thing (zkin zyx92r zyh1296) 0 (zargs 0 zyx92a, [], (zyh1295.1, zyh1295.2.1, 0), 0, 0)
/-! X8_product ((('r', 99), 40, 34),) -/
noncomputable def zyx93a : List zAV := [.inr (.inr (.inl 94)), .inl ((.ofNat 0, .ofNat 4), none)]
def zyx93r : Option zAV := some (.inl ((.negSucc 2147483647, .ofNat 2147483647), none))
noncomputable def zyx93q : zPw := ((6, ([(0, .inr (.inr (.inl 94))), (1, .inl ((.ofNat 0, .ofNat 4), some (1, .ofNat 0))), (2, .inl ((.negSucc 2147483647, .ofNat 2147483647), some (2, .ofNat 0)))], [], zyh1296, 0, 0), [], 0), (zyx93r, zyh1296), 29, 3540)
noncomputable def zbzyx93c : Bool := zchkX [(94, 15)] zprog2 (zovW [zyx86d, zyx92d]) 100000 k2X8_product [zyx87q, zyx81q, zyx75q, zyx69q, zyx63q, zyx57q] [zyx93q] [zyx93q]
noncomputable def zyx93d : zKw := (265, 5, 29, 3540, zyx93a, zyh1295, [(zyx93r, zyh1296)])
noncomputable def zbzyx93e : Bool := zrunw zprog2 (zovW [zyx86d, zyx92d]) 100000 (zcutW [(94, 15)] none ((zyx93r, zyh1296), 29, 3540) [zyx93q, zyx87q, zyx81q, zyx75q, zyx69q, zyx63q, zyx57q]) 29 3540 k2X8_product (zkin zyx93r zyh1296) 0 (zargs 0 zyx93a, [], (zyh1295.1, zyh1295.2.1, 0), 0, 0)
/-! X8_sum ((('r', 99), 40, 34),) -/
noncomputable def zyx94a : List zAV := [.inr (.inr (.inl 94)), .inl ((.ofNat 1, .ofNat 4), none)]
def zyx94r : Option zAV := some (.inl ((.negSucc 2147483647, .ofNat 2147483647), none))
noncomputable def zyx94q : zPw := ((6, ([(0, .inr (.inr (.inl 94))), (1, .inl ((.ofNat 0, .ofNat 4), some (1, .ofNat 0))), (2, .inl ((.negSucc 2147483647, .ofNat 2147483647), some (2, .ofNat 0)))], [], zyh1296, 0, 0), [], 0), (zyx94r, zyh1296), 30, 3660)
noncomputable def zbzyx94c : Bool := zchkX [(94, 15)] zprog2 (zovW [zyx87d, zyx93d]) 100000 kX8_sum [zyx88q, zyx82q, zyx76q, zyx70q, zyx64q, zyx58q] [zyx94q] [zyx94q]
noncomputable def zyx94d : zKw := (284, 5, 30, 3660, zyx94a, zyh1295, [(zyx94r, zyh1296)])
noncomputable def zbzyx94e : Bool := zrunw zprog2 (zovW [zyx87d, zyx93d]) 100000 (zcutW [(94, 15)] none ((zyx94r, zyh1296), 30, 3660) [zyx94q, zyx88q, zyx82q, zyx76q, zyx70q, zyx64q, zyx58q]) 30 3660 kX8_sum (zkin zyx94r zyh1296) 0 (zargs 0 zyx94a, [], (zyh1295.1, zyh1295.2.1, 0), 0, 0)
/-! X8_heldBy -/
noncomputable def zyx95a : List zAV := [.inr (.inr (.inl 94)), .inl ((.ofNat 1, .ofNat 4), none)]
def zyx95r : Option zAV := some (.inl ((.negSucc 2147483647, .ofNat 2147483647), none))
noncomputable def zyx95d : zKw := (229, 3, 31, 3780, zyx95a, zyh1295, [(zyx95r, zyh1296)])
noncomputable def zbzyx95e : Bool := zrunw zprog2 (zovW [zyx88d, zyx94d, zyx49d]) 100000 (zcutW [] none ((zyx95r, zyh1296), 31, 3780) []) 31 3780 kX8_heldBy (zkin zyx95r zyh1296) 0 (zargs 0 zyx95a, [], (zyh1295.1, zyh1295.2.1, 0), 0, 0)
/-! X8_oneOf -/
noncomputable def zyx96a : List zAV := [zyv318, zyv360, zyv361]
noncomputable def zyx96q : List (Option zAV × zH) := [(some (.inl ((.ofNat 0, .ofNat 0), none)), zyh1321), (some (.inl ((.negSucc 175, .ofNat 79), none)), zyh1294)]
noncomputable def zyx96d : zKw := (260, 3, 4, 480, zyx96a, zyh1292, zyx96q)
noncomputable def zbzyx96e : Bool := zrunw zprog2 (zovW []) 100000 zcut0 4 480 kX8_oneOf (zkinL zyx96q) 0 (zargs 0 zyx96a, [], (zyh1292.1, zyh1292.2.1, 0), 0, 0)
/-! X8_number -/
noncomputable def zyx97a : List zAV := [.inr (.inr (.inl 94)), .inl ((.ofNat 3, .ofNat 3), none)]
def zyx97r : Option zAV := some (.inl ((.negSucc 2147483647, .ofNat 2147483647), none))
noncomputable def zyx97q0 : zPw := ((11, ([(0, .inr (.inr (.inl 94))), (1, .inl ((.ofNat 3, .ofNat 3), some (1, .ofNat 0))), (2, .inl ((.negSucc 2147483647, .ofNat 2147483647), some (2, .ofNat 0))), (3, .inl ((.ofNat 1, .ofNat 3), some (3, .ofNat 0)))], [], zyh1293, 0, 0), [(3, .negSucc 1)], .ofNat 7), (zyx97r, zyh1293), 5, 600)
noncomputable def zbzyx97c0 : Bool := zchkX [] zprog2 (zovW [zyx96d]) 100000 kX8_number [] [zyx97q0] [zyx97q0]
noncomputable def zyx97d : zKw := (259, 4, 5, 600, zyx97a, zyh1292, [(zyx97r, zyh1293)])
noncomputable def zbzyx97e : Bool := zrunw zprog2 (zovW [zyx96d]) 100000 (zcutW [] none ((zyx97r, zyh1293), 5, 600) [zyx97q0]) 5 600 kX8_number (zkin zyx97r zyh1293) 0 (zargs 0 zyx97a, [], (zyh1292.1, zyh1292.2.1, 0), 0, 0)
/-! X8_thing -/
noncomputable def zyx98a : List zAV := [.inr (.inr (.inl 94)), .inl ((.ofNat 0, .ofNat 4), none)]
def zyx98r : Option zAV := some (.inl ((.negSucc 2147483647, .ofNat 2147483647), none))
noncomputable def zyx98d : zKw := (292, 4, 32, 3900, zyx98a, zyh1292, [(zyx98r, zyh1293)])
noncomputable def zbzyx98e : Bool := zrunw zprog2 (zovW [zyx95d, zyx92d, zyx49d, zyx97d, zyx48d]) 100000 (zcutW [] none ((zyx98r, zyh1293), 32, 3900) []) 32 3900 k2X8_thing (zkin zyx98r zyh1293) 0 (zargs 0 zyx98a, [], (zyh1292.1, zyh1292.2.1, 0), 0, 0)
/-! X8_product ((('r', 99), 40, 33),) -/
noncomputable def zyx99a : List zAV := [.inr (.inr (.inl 94)), .inl ((.ofNat 0, .ofNat 4), none)]
def zyx99r : Option zAV := some (.inl ((.negSucc 2147483647, .ofNat 2147483647), none))
noncomputable def zyx99q : zPw := ((6, ([(0, .inr (.inr (.inl 94))), (1, .inl ((.ofNat 0, .ofNat 4), some (1, .ofNat 0))), (2, .inl ((.negSucc 2147483647, .ofNat 2147483647), some (2, .ofNat 0)))], [], zyh1293, 0, 0), [], 0), (zyx99r, zyh1293), 33, 4020)
noncomputable def zbzyx99c : Bool := zchkX [(94, 15)] zprog2 (zovW [zyx92d, zyx98d]) 100000 k2X8_product [zyx93q, zyx87q, zyx81q, zyx75q, zyx69q, zyx63q, zyx57q] [zyx99q] [zyx99q]
noncomputable def zyx99d : zKw := (265, 5, 33, 4020, zyx99a, zyh1292, [(zyx99r, zyh1293)])
noncomputable def zbzyx99e : Bool := zrunw zprog2 (zovW [zyx92d, zyx98d]) 100000 (zcutW [(94, 15)] none ((zyx99r, zyh1293), 33, 4020) [zyx99q, zyx93q, zyx87q, zyx81q, zyx75q, zyx69q, zyx63q, zyx57q]) 33 4020 k2X8_product (zkin zyx99r zyh1293) 0 (zargs 0 zyx99a, [], (zyh1292.1, zyh1292.2.1, 0), 0, 0)
noncomputable def zyg11 : List Bool := [zbzyx76c, zbzyx76e, zbzyx77e, zbzyx78e, zbzyx79c0, zbzyx79e, zbzyx80e, zbzyx81c, zbzyx81e, zbzyx82c, zbzyx82e, zbzyx83e, zbzyx84e, zbzyx85c0, zbzyx85e, zbzyx86e, zbzyx87c, zbzyx87e, zbzyx88c, zbzyx88e, zbzyx89e, zbzyx90e, zbzyx91c0, zbzyx91e, zbzyx92e, zbzyx93c, zbzyx93e, zbzyx94c, zbzyx94e, zbzyx95e, zbzyx96e, zbzyx97c0, zbzyx97e, zbzyx98e, zbzyx99c, zbzyx99e]
set_option maxRecDepth 100000 in
theorem zyg11_ok : zall (fun b => b) zyg11 = true := by decide +kernel
theorem zyx76c : zchkX [(94, 15)] zprog2 (zovW [zyx69d, zyx75d]) 100000 kX8_sum [zyx70q, zyx64q, zyx58q] [zyx76q] [zyx76q] = true := zall_ok zyg11_ok (k := 0) (a := zbzyx76c) rfl
theorem zyx76k {l : Launch} {D : va_G} {tys : List (ClassId × FieldType)} {o : zO} {z : Nat} (E : zEnv tys) : zPtOk l D vwCl tys o z (zXX o z) zTs mX8_sum zyx76q := zkn_pt E (fun g => List.forall_mem_cons.mpr ⟨zyx69 (o := zwith o g) E, List.forall_mem_cons.mpr ⟨zyx75 (o := zwith o g) E, fun _ h => absurd h List.not_mem_nil⟩⟩) (show zget zprog2 284 = some mX8_sum from rfl) (List.forall_mem_cons.mpr ⟨zyx70k E, List.forall_mem_cons.mpr ⟨zyx64k E, List.forall_mem_cons.mpr ⟨zyx58k E, fun _ h => absurd h List.not_mem_nil⟩⟩⟩) zyx76c _ List.mem_cons_self
theorem zyx76e : zrunw zprog2 (zovW [zyx69d, zyx75d]) 100000 (zcutW [(94, 15)] none ((zyx76r, zyh1305), 18, 2220) [zyx76q, zyx70q, zyx64q, zyx58q]) 18 2220 kX8_sum (zkin zyx76r zyh1305) 0 (zargs 0 zyx76a, [], (zyh1304.1, zyh1304.2.1, 0), 0, 0) = true := zall_ok zyg11_ok (k := 1) (a := zbzyx76e) rfl
theorem zyx76 {l : Launch} {D : va_G} {tys : List (ClassId × FieldType)} {o : zO} {z : Nat} (E : zEnv tys) : zKnW l D vwCl tys o z (zXX o z) zTs zprog2 zyx76d :=
  zkn_mk E (fun g => List.forall_mem_cons.mpr ⟨zyx69 (o := zwith o g) E, List.forall_mem_cons.mpr ⟨zyx75 (o := zwith o g) E, fun _ h => absurd h List.not_mem_nil⟩⟩) (show zget zprog2 284 = some mX8_sum from rfl) rfl (by decide) (by decide) (by decide) (by decide) (G := [zyx76q, zyx70q, zyx64q, zyx58q]) (List.forall_mem_cons.mpr ⟨zyx76k E, List.forall_mem_cons.mpr ⟨zyx70k E, List.forall_mem_cons.mpr ⟨zyx64k E, List.forall_mem_cons.mpr ⟨zyx58k E, fun _ h => absurd h List.not_mem_nil⟩⟩⟩⟩) zyx76e
theorem zyx77e : zrunw zprog2 (zovW [zyx70d, zyx76d, zyx52d]) 100000 (zcutW [] none ((zyx77r, zyh1305), 19, 2340) []) 19 2340 kX8_heldBy (zkin zyx77r zyh1305) 0 (zargs 0 zyx77a, [], (zyh1304.1, zyh1304.2.1, 0), 0, 0) = true := zall_ok zyg11_ok (k := 2) (a := zbzyx77e) rfl
theorem zyx77 {l : Launch} {D : va_G} {tys : List (ClassId × FieldType)} {o : zO} {z : Nat} (E : zEnv tys) : zKnW l D vwCl tys o z (zXX o z) zTs zprog2 zyx77d :=
  zkn_mk E (fun g => List.forall_mem_cons.mpr ⟨zyx70 (o := zwith o g) E, List.forall_mem_cons.mpr ⟨zyx76 (o := zwith o g) E, List.forall_mem_cons.mpr ⟨zyx52 (o := zwith o g) E, fun _ h => absurd h List.not_mem_nil⟩⟩⟩) (show zget zprog2 229 = some mX8_heldBy from rfl) rfl (by decide) (by decide) (by decide) (by decide) (G := []) (fun _ h => absurd h List.not_mem_nil) zyx77e
theorem zyx78e : zrunw zprog2 (zovW []) 100000 zcut0 4 480 kX8_oneOf (zkinL zyx78q) 0 (zargs 0 zyx78a, [], (zyh1301.1, zyh1301.2.1, 0), 0, 0) = true := zall_ok zyg11_ok (k := 3) (a := zbzyx78e) rfl
theorem zyx78 {l : Launch} {D : va_G} {tys : List (ClassId × FieldType)} {o : zO} {z : Nat} (E : zEnv tys) : zKnW l D vwCl tys o z (zXX o z) zTs zprog2 zyx78d :=
  zkn_ml E (fun g => fun _ h => absurd h List.not_mem_nil) (show zget zprog2 260 = some mX8_oneOf from rfl) rfl (by decide) (by decide) (by decide) (by decide) zyx78e
theorem zyx79c0 : zchkX [] zprog2 (zovW [zyx78d]) 100000 kX8_number [] [zyx79q0] [zyx79q0] = true := zall_ok zyg11_ok (k := 4) (a := zbzyx79c0) rfl
theorem zyx79_k0 {l : Launch} {D : va_G} {tys : List (ClassId × FieldType)} {o : zO} {z : Nat} (E : zEnv tys) : zPtOk l D vwCl tys o z (zXX o z) zTs mX8_number zyx79q0 := zkn_pt E (fun g => List.forall_mem_cons.mpr ⟨zyx78 (o := zwith o g) E, fun _ h => absurd h List.not_mem_nil⟩) (show zget zprog2 259 = some mX8_number from rfl) (fun _ h => absurd h List.not_mem_nil) zyx79c0 _ (List.mem_of_getElem? (i := 0) rfl)
theorem zyx79e : zrunw zprog2 (zovW [zyx78d]) 100000 (zcutW [] none ((zyx79r, zyh1302), 5, 600) [zyx79q0]) 5 600 kX8_number (zkin zyx79r zyh1302) 0 (zargs 0 zyx79a, [], (zyh1301.1, zyh1301.2.1, 0), 0, 0) = true := zall_ok zyg11_ok (k := 5) (a := zbzyx79e) rfl
theorem zyx79 {l : Launch} {D : va_G} {tys : List (ClassId × FieldType)} {o : zO} {z : Nat} (E : zEnv tys) : zKnW l D vwCl tys o z (zXX o z) zTs zprog2 zyx79d :=
  zkn_mk E (fun g => List.forall_mem_cons.mpr ⟨zyx78 (o := zwith o g) E, fun _ h => absurd h List.not_mem_nil⟩) (show zget zprog2 259 = some mX8_number from rfl) rfl (by decide) (by decide) (by decide) (by decide) (G := [zyx79q0]) (List.forall_mem_cons.mpr ⟨zyx79_k0 E, fun _ h => absurd h List.not_mem_nil⟩) zyx79e
theorem zyx80e : zrunw zprog2 (zovW [zyx77d, zyx74d, zyx52d, zyx79d, zyx51d]) 100000 (zcutW [] none ((zyx80r, zyh1302), 20, 2460) []) 20 2460 k2X8_thing (zkin zyx80r zyh1302) 0 (zargs 0 zyx80a, [], (zyh1301.1, zyh1301.2.1, 0), 0, 0) = true := zall_ok zyg11_ok (k := 6) (a := zbzyx80e) rfl
theorem zyx80 {l : Launch} {D : va_G} {tys : List (ClassId × FieldType)} {o : zO} {z : Nat} (E : zEnv tys) : zKnW l D vwCl tys o z (zXX o z) zTs zprog2 zyx80d :=
  zkn_mk E (fun g => List.forall_mem_cons.mpr ⟨zyx77 (o := zwith o g) E, List.forall_mem_cons.mpr ⟨zyx74 (o := zwith o g) E, List.forall_mem_cons.mpr ⟨zyx52 (o := zwith o g) E, List.forall_mem_cons.mpr ⟨zyx79 (o := zwith o g) E, List.forall_mem_cons.mpr ⟨zyx51 (o := zwith o g) E, fun _ h => absurd h List.not_mem_nil⟩⟩⟩⟩⟩) (show zget zprog2 292 = some m2X8_thing from rfl) rfl (by decide) (by decide) (by decide) (by decide) (G := []) (fun _ h => absurd h List.not_mem_nil) zyx80e
theorem zyx81c : zchkX [(94, 15)] zprog2 (zovW [zyx74d, zyx80d]) 100000 k2X8_product [zyx75q, zyx69q, zyx63q, zyx57q] [zyx81q] [zyx81q] = true := zall_ok zyg11_ok (k := 7) (a := zbzyx81c) rfl
theorem zyx81k {l : Launch} {D : va_G} {tys : List (ClassId × FieldType)} {o : zO} {z : Nat} (E : zEnv tys) : zPtOk l D vwCl tys o z (zXX o z) zTs m2X8_product zyx81q := zkn_pt E (fun g => List.forall_mem_cons.mpr ⟨zyx74 (o := zwith o g) E, List.forall_mem_cons.mpr ⟨zyx80 (o := zwith o g) E, fun _ h => absurd h List.not_mem_nil⟩⟩) (show zget zprog2 265 = some m2X8_product from rfl) (List.forall_mem_cons.mpr ⟨zyx75k E, List.forall_mem_cons.mpr ⟨zyx69k E, List.forall_mem_cons.mpr ⟨zyx63k E, List.forall_mem_cons.mpr ⟨zyx57k E, fun _ h => absurd h List.not_mem_nil⟩⟩⟩⟩) zyx81c _ List.mem_cons_self
theorem zyx81e : zrunw zprog2 (zovW [zyx74d, zyx80d]) 100000 (zcutW [(94, 15)] none ((zyx81r, zyh1302), 21, 2580) [zyx81q, zyx75q, zyx69q, zyx63q, zyx57q]) 21 2580 k2X8_product (zkin zyx81r zyh1302) 0 (zargs 0 zyx81a, [], (zyh1301.1, zyh1301.2.1, 0), 0, 0) = true := zall_ok zyg11_ok (k := 8) (a := zbzyx81e) rfl
theorem zyx81 {l : Launch} {D : va_G} {tys : List (ClassId × FieldType)} {o : zO} {z : Nat} (E : zEnv tys) : zKnW l D vwCl tys o z (zXX o z) zTs zprog2 zyx81d :=
  zkn_mk E (fun g => List.forall_mem_cons.mpr ⟨zyx74 (o := zwith o g) E, List.forall_mem_cons.mpr ⟨zyx80 (o := zwith o g) E, fun _ h => absurd h List.not_mem_nil⟩⟩) (show zget zprog2 265 = some m2X8_product from rfl) rfl (by decide) (by decide) (by decide) (by decide) (G := [zyx81q, zyx75q, zyx69q, zyx63q, zyx57q]) (List.forall_mem_cons.mpr ⟨zyx81k E, List.forall_mem_cons.mpr ⟨zyx75k E, List.forall_mem_cons.mpr ⟨zyx69k E, List.forall_mem_cons.mpr ⟨zyx63k E, List.forall_mem_cons.mpr ⟨zyx57k E, fun _ h => absurd h List.not_mem_nil⟩⟩⟩⟩⟩) zyx81e
theorem zyx82c : zchkX [(94, 15)] zprog2 (zovW [zyx75d, zyx81d]) 100000 kX8_sum [zyx76q, zyx70q, zyx64q, zyx58q] [zyx82q] [zyx82q] = true := zall_ok zyg11_ok (k := 9) (a := zbzyx82c) rfl
theorem zyx82k {l : Launch} {D : va_G} {tys : List (ClassId × FieldType)} {o : zO} {z : Nat} (E : zEnv tys) : zPtOk l D vwCl tys o z (zXX o z) zTs mX8_sum zyx82q := zkn_pt E (fun g => List.forall_mem_cons.mpr ⟨zyx75 (o := zwith o g) E, List.forall_mem_cons.mpr ⟨zyx81 (o := zwith o g) E, fun _ h => absurd h List.not_mem_nil⟩⟩) (show zget zprog2 284 = some mX8_sum from rfl) (List.forall_mem_cons.mpr ⟨zyx76k E, List.forall_mem_cons.mpr ⟨zyx70k E, List.forall_mem_cons.mpr ⟨zyx64k E, List.forall_mem_cons.mpr ⟨zyx58k E, fun _ h => absurd h List.not_mem_nil⟩⟩⟩⟩) zyx82c _ List.mem_cons_self
theorem zyx82e : zrunw zprog2 (zovW [zyx75d, zyx81d]) 100000 (zcutW [(94, 15)] none ((zyx82r, zyh1302), 22, 2700) [zyx82q, zyx76q, zyx70q, zyx64q, zyx58q]) 22 2700 kX8_sum (zkin zyx82r zyh1302) 0 (zargs 0 zyx82a, [], (zyh1301.1, zyh1301.2.1, 0), 0, 0) = true := zall_ok zyg11_ok (k := 10) (a := zbzyx82e) rfl
theorem zyx82 {l : Launch} {D : va_G} {tys : List (ClassId × FieldType)} {o : zO} {z : Nat} (E : zEnv tys) : zKnW l D vwCl tys o z (zXX o z) zTs zprog2 zyx82d :=
  zkn_mk E (fun g => List.forall_mem_cons.mpr ⟨zyx75 (o := zwith o g) E, List.forall_mem_cons.mpr ⟨zyx81 (o := zwith o g) E, fun _ h => absurd h List.not_mem_nil⟩⟩) (show zget zprog2 284 = some mX8_sum from rfl) rfl (by decide) (by decide) (by decide) (by decide) (G := [zyx82q, zyx76q, zyx70q, zyx64q, zyx58q]) (List.forall_mem_cons.mpr ⟨zyx82k E, List.forall_mem_cons.mpr ⟨zyx76k E, List.forall_mem_cons.mpr ⟨zyx70k E, List.forall_mem_cons.mpr ⟨zyx64k E, List.forall_mem_cons.mpr ⟨zyx58k E, fun _ h => absurd h List.not_mem_nil⟩⟩⟩⟩⟩) zyx82e
theorem zyx83e : zrunw zprog2 (zovW [zyx76d, zyx82d, zyx51d]) 100000 (zcutW [] none ((zyx83r, zyh1302), 23, 2820) []) 23 2820 kX8_heldBy (zkin zyx83r zyh1302) 0 (zargs 0 zyx83a, [], (zyh1301.1, zyh1301.2.1, 0), 0, 0) = true := zall_ok zyg11_ok (k := 11) (a := zbzyx83e) rfl
theorem zyx83 {l : Launch} {D : va_G} {tys : List (ClassId × FieldType)} {o : zO} {z : Nat} (E : zEnv tys) : zKnW l D vwCl tys o z (zXX o z) zTs zprog2 zyx83d :=
  zkn_mk E (fun g => List.forall_mem_cons.mpr ⟨zyx76 (o := zwith o g) E, List.forall_mem_cons.mpr ⟨zyx82 (o := zwith o g) E, List.forall_mem_cons.mpr ⟨zyx51 (o := zwith o g) E, fun _ h => absurd h List.not_mem_nil⟩⟩⟩) (show zget zprog2 229 = some mX8_heldBy from rfl) rfl (by decide) (by decide) (by decide) (by decide) (G := []) (fun _ h => absurd h List.not_mem_nil) zyx83e
theorem zyx84e : zrunw zprog2 (zovW []) 100000 zcut0 4 480 kX8_oneOf (zkinL zyx84q) 0 (zargs 0 zyx84a, [], (zyh1298.1, zyh1298.2.1, 0), 0, 0) = true := zall_ok zyg11_ok (k := 12) (a := zbzyx84e) rfl
theorem zyx84 {l : Launch} {D : va_G} {tys : List (ClassId × FieldType)} {o : zO} {z : Nat} (E : zEnv tys) : zKnW l D vwCl tys o z (zXX o z) zTs zprog2 zyx84d :=
  zkn_ml E (fun g => fun _ h => absurd h List.not_mem_nil) (show zget zprog2 260 = some mX8_oneOf from rfl) rfl (by decide) (by decide) (by decide) (by decide) zyx84e
theorem zyx85c0 : zchkX [] zprog2 (zovW [zyx84d]) 100000 kX8_number [] [zyx85q0] [zyx85q0] = true := zall_ok zyg11_ok (k := 13) (a := zbzyx85c0) rfl
theorem zyx85_k0 {l : Launch} {D : va_G} {tys : List (ClassId × FieldType)} {o : zO} {z : Nat} (E : zEnv tys) : zPtOk l D vwCl tys o z (zXX o z) zTs mX8_number zyx85q0 := zkn_pt E (fun g => List.forall_mem_cons.mpr ⟨zyx84 (o := zwith o g) E, fun _ h => absurd h List.not_mem_nil⟩) (show zget zprog2 259 = some mX8_number from rfl) (fun _ h => absurd h List.not_mem_nil) zyx85c0 _ (List.mem_of_getElem? (i := 0) rfl)
theorem zyx85e : zrunw zprog2 (zovW [zyx84d]) 100000 (zcutW [] none ((zyx85r, zyh1299), 5, 600) [zyx85q0]) 5 600 kX8_number (zkin zyx85r zyh1299) 0 (zargs 0 zyx85a, [], (zyh1298.1, zyh1298.2.1, 0), 0, 0) = true := zall_ok zyg11_ok (k := 14) (a := zbzyx85e) rfl
theorem zyx85 {l : Launch} {D : va_G} {tys : List (ClassId × FieldType)} {o : zO} {z : Nat} (E : zEnv tys) : zKnW l D vwCl tys o z (zXX o z) zTs zprog2 zyx85d :=
  zkn_mk E (fun g => List.forall_mem_cons.mpr ⟨zyx84 (o := zwith o g) E, fun _ h => absurd h List.not_mem_nil⟩) (show zget zprog2 259 = some mX8_number from rfl) rfl (by decide) (by decide) (by decide) (by decide) (G := [zyx85q0]) (List.forall_mem_cons.mpr ⟨zyx85_k0 E, fun _ h => absurd h List.not_mem_nil⟩) zyx85e
theorem zyx86e : zrunw zprog2 (zovW [zyx83d, zyx80d, zyx51d, zyx85d, zyx50d]) 100000 (zcutW [] none ((zyx86r, zyh1299), 24, 2940) []) 24 2940 k2X8_thing (zkin zyx86r zyh1299) 0 (zargs 0 zyx86a, [], (zyh1298.1, zyh1298.2.1, 0), 0, 0) = true := zall_ok zyg11_ok (k := 15) (a := zbzyx86e) rfl
theorem zyx86 {l : Launch} {D : va_G} {tys : List (ClassId × FieldType)} {o : zO} {z : Nat} (E : zEnv tys) : zKnW l D vwCl tys o z (zXX o z) zTs zprog2 zyx86d :=
  zkn_mk E (fun g => List.forall_mem_cons.mpr ⟨zyx83 (o := zwith o g) E, List.forall_mem_cons.mpr ⟨zyx80 (o := zwith o g) E, List.forall_mem_cons.mpr ⟨zyx51 (o := zwith o g) E, List.forall_mem_cons.mpr ⟨zyx85 (o := zwith o g) E, List.forall_mem_cons.mpr ⟨zyx50 (o := zwith o g) E, fun _ h => absurd h List.not_mem_nil⟩⟩⟩⟩⟩) (show zget zprog2 292 = some m2X8_thing from rfl) rfl (by decide) (by decide) (by decide) (by decide) (G := []) (fun _ h => absurd h List.not_mem_nil) zyx86e
theorem zyx87c : zchkX [(94, 15)] zprog2 (zovW [zyx80d, zyx86d]) 100000 k2X8_product [zyx81q, zyx75q, zyx69q, zyx63q, zyx57q] [zyx87q] [zyx87q] = true := zall_ok zyg11_ok (k := 16) (a := zbzyx87c) rfl
theorem zyx87k {l : Launch} {D : va_G} {tys : List (ClassId × FieldType)} {o : zO} {z : Nat} (E : zEnv tys) : zPtOk l D vwCl tys o z (zXX o z) zTs m2X8_product zyx87q := zkn_pt E (fun g => List.forall_mem_cons.mpr ⟨zyx80 (o := zwith o g) E, List.forall_mem_cons.mpr ⟨zyx86 (o := zwith o g) E, fun _ h => absurd h List.not_mem_nil⟩⟩) (show zget zprog2 265 = some m2X8_product from rfl) (List.forall_mem_cons.mpr ⟨zyx81k E, List.forall_mem_cons.mpr ⟨zyx75k E, List.forall_mem_cons.mpr ⟨zyx69k E, List.forall_mem_cons.mpr ⟨zyx63k E, List.forall_mem_cons.mpr ⟨zyx57k E, fun _ h => absurd h List.not_mem_nil⟩⟩⟩⟩⟩) zyx87c _ List.mem_cons_self
theorem zyx87e : zrunw zprog2 (zovW [zyx80d, zyx86d]) 100000 (zcutW [(94, 15)] none ((zyx87r, zyh1299), 25, 3060) [zyx87q, zyx81q, zyx75q, zyx69q, zyx63q, zyx57q]) 25 3060 k2X8_product (zkin zyx87r zyh1299) 0 (zargs 0 zyx87a, [], (zyh1298.1, zyh1298.2.1, 0), 0, 0) = true := zall_ok zyg11_ok (k := 17) (a := zbzyx87e) rfl
theorem zyx87 {l : Launch} {D : va_G} {tys : List (ClassId × FieldType)} {o : zO} {z : Nat} (E : zEnv tys) : zKnW l D vwCl tys o z (zXX o z) zTs zprog2 zyx87d :=
  zkn_mk E (fun g => List.forall_mem_cons.mpr ⟨zyx80 (o := zwith o g) E, List.forall_mem_cons.mpr ⟨zyx86 (o := zwith o g) E, fun _ h => absurd h List.not_mem_nil⟩⟩) (show zget zprog2 265 = some m2X8_product from rfl) rfl (by decide) (by decide) (by decide) (by decide) (G := [zyx87q, zyx81q, zyx75q, zyx69q, zyx63q, zyx57q]) (List.forall_mem_cons.mpr ⟨zyx87k E, List.forall_mem_cons.mpr ⟨zyx81k E, List.forall_mem_cons.mpr ⟨zyx75k E, List.forall_mem_cons.mpr ⟨zyx69k E, List.forall_mem_cons.mpr ⟨zyx63k E, List.forall_mem_cons.mpr ⟨zyx57k E, fun _ h => absurd h List.not_mem_nil⟩⟩⟩⟩⟩⟩) zyx87e
theorem zyx88c : zchkX [(94, 15)] zprog2 (zovW [zyx81d, zyx87d]) 100000 kX8_sum [zyx82q, zyx76q, zyx70q, zyx64q, zyx58q] [zyx88q] [zyx88q] = true := zall_ok zyg11_ok (k := 18) (a := zbzyx88c) rfl
theorem zyx88k {l : Launch} {D : va_G} {tys : List (ClassId × FieldType)} {o : zO} {z : Nat} (E : zEnv tys) : zPtOk l D vwCl tys o z (zXX o z) zTs mX8_sum zyx88q := zkn_pt E (fun g => List.forall_mem_cons.mpr ⟨zyx81 (o := zwith o g) E, List.forall_mem_cons.mpr ⟨zyx87 (o := zwith o g) E, fun _ h => absurd h List.not_mem_nil⟩⟩) (show zget zprog2 284 = some mX8_sum from rfl) (List.forall_mem_cons.mpr ⟨zyx82k E, List.forall_mem_cons.mpr ⟨zyx76k E, List.forall_mem_cons.mpr ⟨zyx70k E, List.forall_mem_cons.mpr ⟨zyx64k E, List.forall_mem_cons.mpr ⟨zyx58k E, fun _ h => absurd h List.not_mem_nil⟩⟩⟩⟩⟩) zyx88c _ List.mem_cons_self
theorem zyx88e : zrunw zprog2 (zovW [zyx81d, zyx87d]) 100000 (zcutW [(94, 15)] none ((zyx88r, zyh1299), 26, 3180) [zyx88q, zyx82q, zyx76q, zyx70q, zyx64q, zyx58q]) 26 3180 kX8_sum (zkin zyx88r zyh1299) 0 (zargs 0 zyx88a, [], (zyh1298.1, zyh1298.2.1, 0), 0, 0) = true := zall_ok zyg11_ok (k := 19) (a := zbzyx88e) rfl
theorem zyx88 {l : Launch} {D : va_G} {tys : List (ClassId × FieldType)} {o : zO} {z : Nat} (E : zEnv tys) : zKnW l D vwCl tys o z (zXX o z) zTs zprog2 zyx88d :=
  zkn_mk E (fun g => List.forall_mem_cons.mpr ⟨zyx81 (o := zwith o g) E, List.forall_mem_cons.mpr ⟨zyx87 (o := zwith o g) E, fun _ h => absurd h List.not_mem_nil⟩⟩) (show zget zprog2 284 = some mX8_sum from rfl) rfl (by decide) (by decide) (by decide) (by decide) (G := [zyx88q, zyx82q, zyx76q, zyx70q, zyx64q, zyx58q]) (List.forall_mem_cons.mpr ⟨zyx88k E, List.forall_mem_cons.mpr ⟨zyx82k E, List.forall_mem_cons.mpr ⟨zyx76k E, List.forall_mem_cons.mpr ⟨zyx70k E, List.forall_mem_cons.mpr ⟨zyx64k E, List.forall_mem_cons.mpr ⟨zyx58k E, fun _ h => absurd h List.not_mem_nil⟩⟩⟩⟩⟩⟩) zyx88e
theorem zyx89e : zrunw zprog2 (zovW [zyx82d, zyx88d, zyx50d]) 100000 (zcutW [] none ((zyx89r, zyh1299), 27, 3300) []) 27 3300 kX8_heldBy (zkin zyx89r zyh1299) 0 (zargs 0 zyx89a, [], (zyh1298.1, zyh1298.2.1, 0), 0, 0) = true := zall_ok zyg11_ok (k := 20) (a := zbzyx89e) rfl
theorem zyx89 {l : Launch} {D : va_G} {tys : List (ClassId × FieldType)} {o : zO} {z : Nat} (E : zEnv tys) : zKnW l D vwCl tys o z (zXX o z) zTs zprog2 zyx89d :=
  zkn_mk E (fun g => List.forall_mem_cons.mpr ⟨zyx82 (o := zwith o g) E, List.forall_mem_cons.mpr ⟨zyx88 (o := zwith o g) E, List.forall_mem_cons.mpr ⟨zyx50 (o := zwith o g) E, fun _ h => absurd h List.not_mem_nil⟩⟩⟩) (show zget zprog2 229 = some mX8_heldBy from rfl) rfl (by decide) (by decide) (by decide) (by decide) (G := []) (fun _ h => absurd h List.not_mem_nil) zyx89e
theorem zyx90e : zrunw zprog2 (zovW []) 100000 zcut0 4 480 kX8_oneOf (zkinL zyx90q) 0 (zargs 0 zyx90a, [], (zyh1295.1, zyh1295.2.1, 0), 0, 0) = true := zall_ok zyg11_ok (k := 21) (a := zbzyx90e) rfl
theorem zyx90 {l : Launch} {D : va_G} {tys : List (ClassId × FieldType)} {o : zO} {z : Nat} (E : zEnv tys) : zKnW l D vwCl tys o z (zXX o z) zTs zprog2 zyx90d :=
  zkn_ml E (fun g => fun _ h => absurd h List.not_mem_nil) (show zget zprog2 260 = some mX8_oneOf from rfl) rfl (by decide) (by decide) (by decide) (by decide) zyx90e
theorem zyx91c0 : zchkX [] zprog2 (zovW [zyx90d]) 100000 kX8_number [] [zyx91q0] [zyx91q0] = true := zall_ok zyg11_ok (k := 22) (a := zbzyx91c0) rfl
theorem zyx91_k0 {l : Launch} {D : va_G} {tys : List (ClassId × FieldType)} {o : zO} {z : Nat} (E : zEnv tys) : zPtOk l D vwCl tys o z (zXX o z) zTs mX8_number zyx91q0 := zkn_pt E (fun g => List.forall_mem_cons.mpr ⟨zyx90 (o := zwith o g) E, fun _ h => absurd h List.not_mem_nil⟩) (show zget zprog2 259 = some mX8_number from rfl) (fun _ h => absurd h List.not_mem_nil) zyx91c0 _ (List.mem_of_getElem? (i := 0) rfl)
theorem zyx91e : zrunw zprog2 (zovW [zyx90d]) 100000 (zcutW [] none ((zyx91r, zyh1296), 5, 600) [zyx91q0]) 5 600 kX8_number (zkin zyx91r zyh1296) 0 (zargs 0 zyx91a, [], (zyh1295.1, zyh1295.2.1, 0), 0, 0) = true := zall_ok zyg11_ok (k := 23) (a := zbzyx91e) rfl
theorem zyx91 {l : Launch} {D : va_G} {tys : List (ClassId × FieldType)} {o : zO} {z : Nat} (E : zEnv tys) : zKnW l D vwCl tys o z (zXX o z) zTs zprog2 zyx91d :=
  zkn_mk E (fun g => List.forall_mem_cons.mpr ⟨zyx90 (o := zwith o g) E, fun _ h => absurd h List.not_mem_nil⟩) (show zget zprog2 259 = some mX8_number from rfl) rfl (by decide) (by decide) (by decide) (by decide) (G := [zyx91q0]) (List.forall_mem_cons.mpr ⟨zyx91_k0 E, fun _ h => absurd h List.not_mem_nil⟩) zyx91e
theorem zyx92e : zrunw zprog2 (zovW [zyx89d, zyx86d, zyx50d, zyx91d, zyx49d]) 100000 (zcutW [] none ((zyx92r, zyh1296), 28, 3420) []) 28 3420 k2X8_thing (zkin zyx92r zyh1296) 0 (zargs 0 zyx92a, [], (zyh1295.1, zyh1295.2.1, 0), 0, 0) = true := zall_ok zyg11_ok (k := 24) (a := zbzyx92e) rfl
theorem zyx92 {l : Launch} {D : va_G} {tys : List (ClassId × FieldType)} {o : zO} {z : Nat} (E : zEnv tys) : zKnW l D vwCl tys o z (zXX o z) zTs zprog2 zyx92d :=
  zkn_mk E (fun g => List.forall_mem_cons.mpr ⟨zyx89 (o := zwith o g) E, List.forall_mem_cons.mpr ⟨zyx86 (o := zwith o g) E, List.forall_mem_cons.mpr ⟨zyx50 (o := zwith o g) E, List.forall_mem_cons.mpr ⟨zyx91 (o := zwith o g) E, List.forall_mem_cons.mpr ⟨zyx49 (o := zwith o g) E, fun _ h => absurd h List.not_mem_nil⟩⟩⟩⟩⟩) (show zget zprog2 292 = some m2X8_thing from rfl) rfl (by decide) (by decide) (by decide) (by decide) (G := []) (fun _ h => absurd h List.not_mem_nil) zyx92e
theorem zyx93c : zchkX [(94, 15)] zprog2 (zovW [zyx86d, zyx92d]) 100000 k2X8_product [zyx87q, zyx81q, zyx75q, zyx69q, zyx63q, zyx57q] [zyx93q] [zyx93q] = true := zall_ok zyg11_ok (k := 25) (a := zbzyx93c) rfl
theorem zyx93k {l : Launch} {D : va_G} {tys : List (ClassId × FieldType)} {o : zO} {z : Nat} (E : zEnv tys) : zPtOk l D vwCl tys o z (zXX o z) zTs m2X8_product zyx93q := zkn_pt E (fun g => List.forall_mem_cons.mpr ⟨zyx86 (o := zwith o g) E, List.forall_mem_cons.mpr ⟨zyx92 (o := zwith o g) E, fun _ h => absurd h List.not_mem_nil⟩⟩) (show zget zprog2 265 = some m2X8_product from rfl) (List.forall_mem_cons.mpr ⟨zyx87k E, List.forall_mem_cons.mpr ⟨zyx81k E, List.forall_mem_cons.mpr ⟨zyx75k E, List.forall_mem_cons.mpr ⟨zyx69k E, List.forall_mem_cons.mpr ⟨zyx63k E, List.forall_mem_cons.mpr ⟨zyx57k E, fun _ h => absurd h List.not_mem_nil⟩⟩⟩⟩⟩⟩) zyx93c _ List.mem_cons_self
theorem zyx93e : zrunw zprog2 (zovW [zyx86d, zyx92d]) 100000 (zcutW [(94, 15)] none ((zyx93r, zyh1296), 29, 3540) [zyx93q, zyx87q, zyx81q, zyx75q, zyx69q, zyx63q, zyx57q]) 29 3540 k2X8_product (zkin zyx93r zyh1296) 0 (zargs 0 zyx93a, [], (zyh1295.1, zyh1295.2.1, 0), 0, 0) = true := zall_ok zyg11_ok (k := 26) (a := zbzyx93e) rfl
theorem zyx93 {l : Launch} {D : va_G} {tys : List (ClassId × FieldType)} {o : zO} {z : Nat} (E : zEnv tys) : zKnW l D vwCl tys o z (zXX o z) zTs zprog2 zyx93d :=
  zkn_mk E (fun g => List.forall_mem_cons.mpr ⟨zyx86 (o := zwith o g) E, List.forall_mem_cons.mpr ⟨zyx92 (o := zwith o g) E, fun _ h => absurd h List.not_mem_nil⟩⟩) (show zget zprog2 265 = some m2X8_product from rfl) rfl (by decide) (by decide) (by decide) (by decide) (G := [zyx93q, zyx87q, zyx81q, zyx75q, zyx69q, zyx63q, zyx57q]) (List.forall_mem_cons.mpr ⟨zyx93k E, List.forall_mem_cons.mpr ⟨zyx87k E, List.forall_mem_cons.mpr ⟨zyx81k E, List.forall_mem_cons.mpr ⟨zyx75k E, List.forall_mem_cons.mpr ⟨zyx69k E, List.forall_mem_cons.mpr ⟨zyx63k E, List.forall_mem_cons.mpr ⟨zyx57k E, fun _ h => absurd h List.not_mem_nil⟩⟩⟩⟩⟩⟩⟩) zyx93e
theorem zyx94c : zchkX [(94, 15)] zprog2 (zovW [zyx87d, zyx93d]) 100000 kX8_sum [zyx88q, zyx82q, zyx76q, zyx70q, zyx64q, zyx58q] [zyx94q] [zyx94q] = true := zall_ok zyg11_ok (k := 27) (a := zbzyx94c) rfl
theorem zyx94k {l : Launch} {D : va_G} {tys : List (ClassId × FieldType)} {o : zO} {z : Nat} (E : zEnv tys) : zPtOk l D vwCl tys o z (zXX o z) zTs mX8_sum zyx94q := zkn_pt E (fun g => List.forall_mem_cons.mpr ⟨zyx87 (o := zwith o g) E, List.forall_mem_cons.mpr ⟨zyx93 (o := zwith o g) E, fun _ h => absurd h List.not_mem_nil⟩⟩) (show zget zprog2 284 = some mX8_sum from rfl) (List.forall_mem_cons.mpr ⟨zyx88k E, List.forall_mem_cons.mpr ⟨zyx82k E, List.forall_mem_cons.mpr ⟨zyx76k E, List.forall_mem_cons.mpr ⟨zyx70k E, List.forall_mem_cons.mpr ⟨zyx64k E, List.forall_mem_cons.mpr ⟨zyx58k E, fun _ h => absurd h List.not_mem_nil⟩⟩⟩⟩⟩⟩) zyx94c _ List.mem_cons_self
theorem zyx94e : zrunw zprog2 (zovW [zyx87d, zyx93d]) 100000 (zcutW [(94, 15)] none ((zyx94r, zyh1296), 30, 3660) [zyx94q, zyx88q, zyx82q, zyx76q, zyx70q, zyx64q, zyx58q]) 30 3660 kX8_sum (zkin zyx94r zyh1296) 0 (zargs 0 zyx94a, [], (zyh1295.1, zyh1295.2.1, 0), 0, 0) = true := zall_ok zyg11_ok (k := 28) (a := zbzyx94e) rfl
theorem zyx94 {l : Launch} {D : va_G} {tys : List (ClassId × FieldType)} {o : zO} {z : Nat} (E : zEnv tys) : zKnW l D vwCl tys o z (zXX o z) zTs zprog2 zyx94d :=
  zkn_mk E (fun g => List.forall_mem_cons.mpr ⟨zyx87 (o := zwith o g) E, List.forall_mem_cons.mpr ⟨zyx93 (o := zwith o g) E, fun _ h => absurd h List.not_mem_nil⟩⟩) (show zget zprog2 284 = some mX8_sum from rfl) rfl (by decide) (by decide) (by decide) (by decide) (G := [zyx94q, zyx88q, zyx82q, zyx76q, zyx70q, zyx64q, zyx58q]) (List.forall_mem_cons.mpr ⟨zyx94k E, List.forall_mem_cons.mpr ⟨zyx88k E, List.forall_mem_cons.mpr ⟨zyx82k E, List.forall_mem_cons.mpr ⟨zyx76k E, List.forall_mem_cons.mpr ⟨zyx70k E, List.forall_mem_cons.mpr ⟨zyx64k E, List.forall_mem_cons.mpr ⟨zyx58k E, fun _ h => absurd h List.not_mem_nil⟩⟩⟩⟩⟩⟩⟩) zyx94e
theorem zyx95e : zrunw zprog2 (zovW [zyx88d, zyx94d, zyx49d]) 100000 (zcutW [] none ((zyx95r, zyh1296), 31, 3780) []) 31 3780 kX8_heldBy (zkin zyx95r zyh1296) 0 (zargs 0 zyx95a, [], (zyh1295.1, zyh1295.2.1, 0), 0, 0) = true := zall_ok zyg11_ok (k := 29) (a := zbzyx95e) rfl
theorem zyx95 {l : Launch} {D : va_G} {tys : List (ClassId × FieldType)} {o : zO} {z : Nat} (E : zEnv tys) : zKnW l D vwCl tys o z (zXX o z) zTs zprog2 zyx95d :=
  zkn_mk E (fun g => List.forall_mem_cons.mpr ⟨zyx88 (o := zwith o g) E, List.forall_mem_cons.mpr ⟨zyx94 (o := zwith o g) E, List.forall_mem_cons.mpr ⟨zyx49 (o := zwith o g) E, fun _ h => absurd h List.not_mem_nil⟩⟩⟩) (show zget zprog2 229 = some mX8_heldBy from rfl) rfl (by decide) (by decide) (by decide) (by decide) (G := []) (fun _ h => absurd h List.not_mem_nil) zyx95e
theorem zyx96e : zrunw zprog2 (zovW []) 100000 zcut0 4 480 kX8_oneOf (zkinL zyx96q) 0 (zargs 0 zyx96a, [], (zyh1292.1, zyh1292.2.1, 0), 0, 0) = true := zall_ok zyg11_ok (k := 30) (a := zbzyx96e) rfl
theorem zyx96 {l : Launch} {D : va_G} {tys : List (ClassId × FieldType)} {o : zO} {z : Nat} (E : zEnv tys) : zKnW l D vwCl tys o z (zXX o z) zTs zprog2 zyx96d :=
  zkn_ml E (fun g => fun _ h => absurd h List.not_mem_nil) (show zget zprog2 260 = some mX8_oneOf from rfl) rfl (by decide) (by decide) (by decide) (by decide) zyx96e
theorem zyx97c0 : zchkX [] zprog2 (zovW [zyx96d]) 100000 kX8_number [] [zyx97q0] [zyx97q0] = true := zall_ok zyg11_ok (k := 31) (a := zbzyx97c0) rfl
theorem zyx97_k0 {l : Launch} {D : va_G} {tys : List (ClassId × FieldType)} {o : zO} {z : Nat} (E : zEnv tys) : zPtOk l D vwCl tys o z (zXX o z) zTs mX8_number zyx97q0 := zkn_pt E (fun g => List.forall_mem_cons.mpr ⟨zyx96 (o := zwith o g) E, fun _ h => absurd h List.not_mem_nil⟩) (show zget zprog2 259 = some mX8_number from rfl) (fun _ h => absurd h List.not_mem_nil) zyx97c0 _ (List.mem_of_getElem? (i := 0) rfl)
theorem zyx97e : zrunw zprog2 (zovW [zyx96d]) 100000 (zcutW [] none ((zyx97r, zyh1293), 5, 600) [zyx97q0]) 5 600 kX8_number (zkin zyx97r zyh1293) 0 (zargs 0 zyx97a, [], (zyh1292.1, zyh1292.2.1, 0), 0, 0) = true := zall_ok zyg11_ok (k := 32) (a := zbzyx97e) rfl
theorem zyx97 {l : Launch} {D : va_G} {tys : List (ClassId × FieldType)} {o : zO} {z : Nat} (E : zEnv tys) : zKnW l D vwCl tys o z (zXX o z) zTs zprog2 zyx97d :=
  zkn_mk E (fun g => List.forall_mem_cons.mpr ⟨zyx96 (o := zwith o g) E, fun _ h => absurd h List.not_mem_nil⟩) (show zget zprog2 259 = some mX8_number from rfl) rfl (by decide) (by decide) (by decide) (by decide) (G := [zyx97q0]) (List.forall_mem_cons.mpr ⟨zyx97_k0 E, fun _ h => absurd h List.not_mem_nil⟩) zyx97e
theorem zyx98e : zrunw zprog2 (zovW [zyx95d, zyx92d, zyx49d, zyx97d, zyx48d]) 100000 (zcutW [] none ((zyx98r, zyh1293), 32, 3900) []) 32 3900 k2X8_thing (zkin zyx98r zyh1293) 0 (zargs 0 zyx98a, [], (zyh1292.1, zyh1292.2.1, 0), 0, 0) = true := zall_ok zyg11_ok (k := 33) (a := zbzyx98e) rfl
theorem zyx98 {l : Launch} {D : va_G} {tys : List (ClassId × FieldType)} {o : zO} {z : Nat} (E : zEnv tys) : zKnW l D vwCl tys o z (zXX o z) zTs zprog2 zyx98d :=
  zkn_mk E (fun g => List.forall_mem_cons.mpr ⟨zyx95 (o := zwith o g) E, List.forall_mem_cons.mpr ⟨zyx92 (o := zwith o g) E, List.forall_mem_cons.mpr ⟨zyx49 (o := zwith o g) E, List.forall_mem_cons.mpr ⟨zyx97 (o := zwith o g) E, List.forall_mem_cons.mpr ⟨zyx48 (o := zwith o g) E, fun _ h => absurd h List.not_mem_nil⟩⟩⟩⟩⟩) (show zget zprog2 292 = some m2X8_thing from rfl) rfl (by decide) (by decide) (by decide) (by decide) (G := []) (fun _ h => absurd h List.not_mem_nil) zyx98e
theorem zyx99c : zchkX [(94, 15)] zprog2 (zovW [zyx92d, zyx98d]) 100000 k2X8_product [zyx93q, zyx87q, zyx81q, zyx75q, zyx69q, zyx63q, zyx57q] [zyx99q] [zyx99q] = true := zall_ok zyg11_ok (k := 34) (a := zbzyx99c) rfl
theorem zyx99k {l : Launch} {D : va_G} {tys : List (ClassId × FieldType)} {o : zO} {z : Nat} (E : zEnv tys) : zPtOk l D vwCl tys o z (zXX o z) zTs m2X8_product zyx99q := zkn_pt E (fun g => List.forall_mem_cons.mpr ⟨zyx92 (o := zwith o g) E, List.forall_mem_cons.mpr ⟨zyx98 (o := zwith o g) E, fun _ h => absurd h List.not_mem_nil⟩⟩) (show zget zprog2 265 = some m2X8_product from rfl) (List.forall_mem_cons.mpr ⟨zyx93k E, List.forall_mem_cons.mpr ⟨zyx87k E, List.forall_mem_cons.mpr ⟨zyx81k E, List.forall_mem_cons.mpr ⟨zyx75k E, List.forall_mem_cons.mpr ⟨zyx69k E, List.forall_mem_cons.mpr ⟨zyx63k E, List.forall_mem_cons.mpr ⟨zyx57k E, fun _ h => absurd h List.not_mem_nil⟩⟩⟩⟩⟩⟩⟩) zyx99c _ List.mem_cons_self
theorem zyx99e : zrunw zprog2 (zovW [zyx92d, zyx98d]) 100000 (zcutW [(94, 15)] none ((zyx99r, zyh1293), 33, 4020) [zyx99q, zyx93q, zyx87q, zyx81q, zyx75q, zyx69q, zyx63q, zyx57q]) 33 4020 k2X8_product (zkin zyx99r zyh1293) 0 (zargs 0 zyx99a, [], (zyh1292.1, zyh1292.2.1, 0), 0, 0) = true := zall_ok zyg11_ok (k := 35) (a := zbzyx99e) rfl
theorem zyx99 {l : Launch} {D : va_G} {tys : List (ClassId × FieldType)} {o : zO} {z : Nat} (E : zEnv tys) : zKnW l D vwCl tys o z (zXX o z) zTs zprog2 zyx99d :=
  zkn_mk E (fun g => List.forall_mem_cons.mpr ⟨zyx92 (o := zwith o g) E, List.forall_mem_cons.mpr ⟨zyx98 (o := zwith o g) E, fun _ h => absurd h List.not_mem_nil⟩⟩) (show zget zprog2 265 = some m2X8_product from rfl) rfl (by decide) (by decide) (by decide) (by decide) (G := [zyx99q, zyx93q, zyx87q, zyx81q, zyx75q, zyx69q, zyx63q, zyx57q]) (List.forall_mem_cons.mpr ⟨zyx99k E, List.forall_mem_cons.mpr ⟨zyx93k E, List.forall_mem_cons.mpr ⟨zyx87k E, List.forall_mem_cons.mpr ⟨zyx81k E, List.forall_mem_cons.mpr ⟨zyx75k E, List.forall_mem_cons.mpr ⟨zyx69k E, List.forall_mem_cons.mpr ⟨zyx63k E, List.forall_mem_cons.mpr ⟨zyx57k E, fun _ h => absurd h List.not_mem_nil⟩⟩⟩⟩⟩⟩⟩⟩) zyx99e

