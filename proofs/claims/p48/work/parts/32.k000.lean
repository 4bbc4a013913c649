noncomputable def zycF : zC := .inr (99, [])
def zyv0 : zAV := .inr (.inr (.inl 1))
def zyv1 : zAV := .inr (.inr (.inl 3))
def zyv2 : zAV := .inr (.inr (.inl 15))
def zyv3 : zAV := .inr (.inr (.inl 18))
def zyv4 : zAV := .inr (.inr (.inl 21))
def zyv5 : zAV := .inr (.inr (.inl 24))
def zyv6 : zAV := .inr (.inr (.inl 62))
def zyv7 : zAV := .inr (.inr (.inl 63))
def zyv8 : zAV := .inr (.inr (.inl 64))
def zyv9 : zAV := .inr (.inr (.inl 78))
def zyv10 : zAV := .inr (.inr (.inl 80))
def zyv11 : zAV := .inr (.inr (.inl 81))
def zyv12 : zAV := .inr (.inr (.inl 82))
def zyv13 : zAV := .inl ((.ofNat 0, .ofNat 12), none)
def zyv14 : zAV := .inr (.inr (.inl 83))
def zyv15 : zAV := .inl ((.negSucc 2147483647, .ofNat 2147483647), none)
noncomputable def zyc0 : zC := .inr (7, [zyv0, zyv1, zyv2, zyv3, zyv4, zyv5, zyv6, zyv7, zyv8, zyv9, zyv10, zyv11, zyv12, zyv13, zyv14, zyv15])
def zyv16 : zAV := .inr (.inr (.inl 2))
def zyv17 : zAV := .inl ((.ofNat 0, .ofNat 80), none)
noncomputable def zyc1 : zC := .inr (6, [zyv16, zyv17])
def zyv18 : zAV := .inl ((.ofNat 0, .ofNat 255), none)
noncomputable def zyc2 : zC := .inl (0, 80, [[], [zyv18]])
def zyv19 : zAV := .inr (.inr (.inl 4))
def zyv20 : zAV := .inr (.inr (.inl 5))
def zyv21 : zAV := .inr (.inr (.inl 6))
def zyv22 : zAV := .inr (.inr (.inl 7))
def zyv23 : zAV := .inr (.inr (.inl 8))
def zyv24 : zAV := .inr (.inr (.inl 9))
def zyv25 : zAV := .inl ((.ofNat 0, .ofNat 8), none)
def zyv26 : zAV := .inl ((.ofNat 1, .ofNat 8), none)
def zyv27 : zAV := .inl ((.ofNat 0, .ofNat 9), none)
def zyv28 : zAV := .inr (.inr (.inl 10))
noncomputable def zyc3 : zC := .inr (0, [zyv19, zyv20, zyv21, zyv22, zyv23, zyv24, zyv25, zyv26, zyv27, zyv28, zyv18, zyv18])
noncomputable def zyc4 : zC := .inl (0, 8, [[], [zyv18]])
def zyv29 : zAV := .inl ((.ofNat 0, .ofNat 4), none)
noncomputable def zyc5 : zC := .inl (0, 8, [[], [zyv29]])
noncomputable def zyc6 : zC := .inl (0, 8, [[], [zyv27]])
def zyv30 : zAV := .inl ((.negSucc 7, .ofNat 99), none)
noncomputable def zyc7 : zC := .inl (0, 7, [[], [zyv30]])
noncomputable def zyc8 : zC := .inl (0, 8, [[], [zyv15]])
def zyv31 : zAV := .inr (.inr (.inl 11))
def zyv32 : zAV := .inr (.inr (.inl 12))
def zyv33 : zAV := .inr (.inr (.inl 13))
def zyv34 : zAV := .inr (.inr (.inl 14))
def zyv35 : zAV := .inl ((.ofNat 0, .ofNat 40), none)
def zyv36 : zAV := .inl ((.ofNat 0, .ofNat 1), none)
noncomputable def zyc9 : zC := .inr (3, [zyv31, zyv32, zyv33, zyv34, zyv35, zyv35, zyv29, zyv15, zyv36])
noncomputable def zyc10 : zC := .inl (0, 40, [[], [zyv15]])
def zyv37 : zAV := .inl ((.ofNat 0, .ofNat 256), none)
noncomputable def zyc11 : zC := .inl (0, 40, [[], [zyv37]])
noncomputable def zyc12 : zC := .inl (2, 5, [[], [zyv36]])
def zyv38 : zAV := .inr (.inr (.inl 16))
def zyv39 : zAV := .inr (.inr (.inl 17))
noncomputable def zyc13 : zC := .inr (5, [zyv38, zyv39, zyv18, zyv15, zyv15, zyv15])
def zyv40 : zAV := .inl ((.negSucc 48, .ofNat 207), none)
noncomputable def zyc14 : zC := .inl (0, 8, [[], [zyv40]])
def zyv41 : zAV := .inl ((.ofNat 0, .ofNat 99), none)
noncomputable def zyc15 : zC := .inl (0, 8, [[], [zyv41]])
def zyv42 : zAV := .inr (.inr (.inl 19))
def zyv43 : zAV := .inr (.inr (.inl 20))
noncomputable def zyc16 : zC := .inr (5, [zyv42, zyv43, zyv18, zyv15, zyv15, zyv15])
def zyv44 : zAV := .inr (.inr (.inl 22))
def zyv45 : zAV := .inr (.inr (.inl 23))
noncomputable def zyc17 : zC := .inr (5, [zyv44, zyv45, zyv18, zyv15, zyv15, zyv15])
def zyv46 : zAV := .inr (.inr (.inl 25))
def zyv47 : zAV := .inl ((.ofNat 0, .ofNat 11), none)
noncomputable def zyc18 : zC := .inr (2, [zyv46, zyv47, zyv15])
def zyv48 : zAV := .inr (.inr (.inl 26))
def zyv49 : zAV := .inr (.inr (.inl 29))
def zyv50 : zAV := .inr (.inr (.inl 32))
def zyv51 : zAV := .inr (.inr (.inl 35))
def zyv52 : zAV := .inr (.inr (.inl 38))
def zyv53 : zAV := .inr (.inr (.inl 41))
def zyv54 : zAV := .inr (.inr (.inl 44))
def zyv55 : zAV := .inr (.inr (.inl 47))
def zyv56 : zAV := .inr (.inr (.inl 50))
def zyv57 : zAV := .inr (.inr (.inl 53))
def zyv58 : zAV := .inr (.inr (.inl 56))
def zyv59 : zAV := .inr (.inr (.inl 59))
def zyv60 : zAV := .inr (.inr (.inr (.inl false)))
noncomputable def zyc19 : zC := .inl (9, 12, [[zyv48, zyv49, zyv50, zyv51, zyv52, zyv53, zyv54, zyv55, zyv56, zyv57, zyv58, zyv59, zyv60, zyv60, zyv60, zyv60]])
def zyv61 : zAV := .inr (.inr (.inl 27))
def zyv62 : zAV := .inr (.inr (.inl 28))
noncomputable def zyc20 : zC := .inr (5, [zyv61, zyv62, zyv18, zyv15, zyv15, zyv15])
def zyv63 : zAV := .inr (.inr (.inl 30))
def zyv64 : zAV := .inr (.inr (.inl 31))
noncomputable def zyc21 : zC := .inr (5, [zyv63, zyv64, zyv18, zyv15, zyv15, zyv15])
def zyv65 : zAV := .inr (.inr (.inl 33))
def zyv66 : zAV := .inr (.inr (.inl 34))
noncomputable def zyc22 : zC := .inr (5, [zyv65, zyv66, zyv18, zyv15, zyv15, zyv15])
def zyv67 : zAV := .inr (.inr (.inl 36))
def zyv68 : zAV := .inr (.inr (.inl 37))
noncomputable def zyc23 : zC := .inr (5, [zyv67, zyv68, zyv18, zyv15, zyv15, zyv15])
def zyv69 : zAV := .inr (.inr (.inl 39))
def zyv70 : zAV := .inr (.inr (.inl 40))
noncomputable def zyc24 : zC := .inr (5, [zyv69, zyv70, zyv18, zyv15, zyv15, zyv15])
def zyv71 : zAV := .inr (.inr (.inl 42))
def zyv72 : zAV := .inr (.inr (.inl 43))
noncomputable def zyc25 : zC := .inr (5, [zyv71, zyv72, zyv18, zyv15, zyv15, zyv15])
def zyv73 : zAV := .inr (.inr (.inl 45))
def zyv74 : zAV := .inr (.inr (.inl 46))
noncomputable def zyc26 : zC := .inr (5, [zyv73, zyv74, zyv18, zyv15, zyv15, zyv15])
def zyv75 : zAV := .inr (.inr (.inl 48))
def zyv76 : zAV := .inr (.inr (.inl 49))
noncomputable def zyc27 : zC := .inr (5, [zyv75, zyv76, zyv18, zyv15, zyv15, zyv15])
def zyv77 : zAV := .inr (.inr (.inl 51))
def zyv78 : zAV := .inr (.inr (.inl 52))
noncomputable def zyc28 : zC := .inr (5, [zyv77, zyv78, zyv18, zyv15, zyv15, zyv15])
def zyv79 : zAV := .inr (.inr (.inl 54))
def zyv80 : zAV := .inr (.inr (.inl 55))
noncomputable def zyc29 : zC := .inr (5, [zyv79, zyv80, zyv18, zyv15, zyv15, zyv15])
def zyv81 : zAV := .inr (.inr (.inl 57))
def zyv82 : zAV := .inr (.inr (.inl 58))
noncomputable def zyc30 : zC := .inr (5, [zyv81, zyv82, zyv18, zyv15, zyv15, zyv15])
def zyv83 : zAV := .inr (.inr (.inl 60))
def zyv84 : zAV := .inr (.inr (.inl 61))
noncomputable def zyc31 : zC := .inr (5, [zyv83, zyv84, zyv18, zyv15, zyv15, zyv15])
def zyv85 : zAV := .inr (.inr (.inl 88))
def zyv86 : zAV := .inr (.inr (.inl 91))
noncomputable def zyc32 : zC := .inl (9, 2, [[zyv85, zyv86, zyv60, zyv60, zyv60, zyv60, zyv60, zyv60, zyv60, zyv60, zyv60, zyv60, zyv60, zyv60, zyv60, zyv60]])
noncomputable def zyc33 : zC := .inl (2, 2, [[], [zyv36]])
def zyv87 : zAV := .inr (.inr (.inl 65))
def zyv88 : zAV := .inr (.inr (.inl 66))
def zyv89 : zAV := .inr (.inr (.inl 67))
def zyv90 : zAV := .inr (.inr (.inl 68))
def zyv91 : zAV := .inr (.inr (.inl 69))
def zyv92 : zAV := .inr (.inr (.inl 70))
def zyv93 : zAV := .inr (.inr (.inl 71))
def zyv94 : zAV := .inr (.inr (.inl 72))
def zyv95 : zAV := .inr (.inr (.inl 73))
def zyv96 : zAV := .inr (.inr (.inl 74))
def zyv97 : zAV := .inr (.inr (.inl 75))
def zyv98 : zAV := .inr (.inr (.inl 76))
def zyv99 : zAV := .inr (.inr (.inl 77))
def zyv100 : zAV := .inr (.inl (.negSucc 9223372036854775807, .ofNat 9223372036854775807))
noncomputable def zyc34 : zC := .inr (4, [zyv87, zyv88, zyv89, zyv90, zyv91, zyv92, zyv93, zyv94, zyv95, zyv96, zyv97, zyv98, zyv99, zyv18, zyv100])
def zyv101 : zAV := .inl ((.ofNat 0, .ofNat 7), none)
noncomputable def zyc35 : zC := .inl (0, 8, [[], [zyv101]])
def zyv102 : zAV := .inl ((.negSucc 8, .ofNat 9), none)
noncomputable def zyc36 : zC := .inl (0, 8, [[], [zyv102]])
def zyv103 : zAV := .inr (.inl (.ofNat 0, .ofNat 68719476736))
noncomputable def zyc37 : zC := .inl (1, 64, [[], [zyv103]])
def zyv104 : zAV := .inr (.inl (.ofNat 0, .ofNat 1000))
noncomputable def zyc38 : zC := .inl (1, 8, [[], [zyv104]])
noncomputable def zyc39 : zC := .inl (1, 256, [[], [zyv100]])
noncomputable def zyc40 : zC := .inl (0, 2304, [[], [zyv15]])
noncomputable def zyc41 : zC := .inl (0, 256, [[], [zyv15]])
noncomputable def zyc42 : zC := .inl (0, 64, [[], [zyv15]])
noncomputable def zyc43 : zC := .inl (2, 256, [[], [zyv36]])
def zyv105 : zAV := .inr (.inr (.inl 79))
noncomputable def zyc44 : zC := .inr (1, [zyv105, zyv25])
noncomputable def zyc45 : zC := .inl (1, 8, [[], [zyv100]])
noncomputable def zyc46 : zC := .inl (0, 12, [[], [zyv101]])
noncomputable def zyc47 : zC := .inl (0, 12, [[], [zyv36]])
def zyv106 : zAV := .inr (.inr (.inl 84))
def zyv107 : zAV := .inr (.inr (.inl 85))
def zyv108 : zAV := .inr (.inr (.inl 86))
def zyv109 : zAV := .inr (.inr (.inl 87))
noncomputable def zyc48 : zC := .inr (3, [zyv106, zyv107, zyv108, zyv109, zyv35, zyv35, zyv29, zyv15, zyv36])
def zyv110 : zAV := .inr (.inr (.inl 89))
def zyv111 : zAV := .inr (.inr (.inl 90))
noncomputable def zyc49 : zC := .inr (5, [zyv110, zyv111, zyv18, zyv15, zyv15, zyv15])
def zyv112 : zAV := .inr (.inr (.inl 92))
def zyv113 : zAV := .inr (.inr (.inl 93))
noncomputable def zyc50 : zC := .inr (5, [zyv112, zyv113, zyv18, zyv15, zyv15, zyv15])
def zyv114 : zAV := .inr (.inr (.inr (.inr 100)))
noncomputable def zyc51 : zC := .inr (8, [zyv114, zyv15, zyv15, zyv15, zyv114, zyv114, zyv114, zyv114, zyv15, zyv114, zyv15, zyv15, zyv114, zyv15, zyv15, zyv15, zyv15, zyv114, zyv114, zyv114, zyv15, zyv36, zyv114, zyv114, zyv15, zyv114, zyv114, zyv15, zyv15, zyv114, zyv114, zyv114, zyv114, zyv114, zyv114, zyv114, zyv114, zyv114, zyv114, zyv15, zyv114, zyv114, zyv114, zyv114, zyv15, zyv15, zyv15, zyv15, zyv114, zyv114, zyv114])
noncomputable def zyc52 : zC := .inl (0, 27, [[], [zyv15]])
def zyv115 : zAV := .inl ((.negSucc 127, .ofNat 127), none)
noncomputable def zyc53 : zC := .inl (3, 80, [[], [zyv115]])
noncomputable def zyc54 : zC := .inl (1, 16, [[], [zyv100]])
noncomputable def zyc55 : zC := .inl (0, 24, [[], [zyv15]])
noncomputable def zyc56 : zC := .inl (3, 40, [[], [zyv115]])
noncomputable def zyc57 : zC := .inl (0, 7, [[], [zyv15]])
noncomputable def zyc58 : zC := .inl (0, 324, [[], [zyv15]])
noncomputable def zyc59 : zC := .inl (0, 240, [[], [zyv15]])
noncomputable def zyc60 : zC := .inl (0, 12, [[], [zyv15]])
noncomputable def zyc61 : zC := .inl (0, 54, [[], [zyv15]])
noncomputable def zyc62 : zC := .inl (0, 2, [[], [zyv15]])
noncomputable def zyc63 : zC := .inl (1, 1, [[], [zyv100]])
noncomputable def zyr0 : List zC := [zyc0, zyc1, zyc2, zyc3, zyc4, zyc5, zyc6, zyc7, zyc8, zyc8, zyc9, zyc10, zyc11, zyc10, zyc12, zyc13]
noncomputable def zyr1 : List zC := [zyc14, zyc15, zyc16, zyc14, zyc15, zyc17, zyc14, zyc15, zyc18, zyc19, zyc20, zyc14, zyc15, zyc21, zyc14, zyc15]
noncomputable def zyr2 : List zC := [zyc22, zyc14, zyc15, zyc23, zyc14, zyc15, zyc24, zyc14, zyc15, zyc25, zyc14, zyc15, zyc26, zyc14, zyc15, zyc27]
noncomputable def zyr3 : List zC := [zyc14, zyc15, zyc28, zyc14, zyc15, zyc29, zyc14, zyc15, zyc30, zyc14, zyc15, zyc31, zyc14, zyc15, zyc32, zyc33]
noncomputable def zyr4 : List zC := [zyc34, zyc4, zyc5, zyc35, zyc36, zyc37, zyc38, zyc39, zyc39, zyc40, zyc41, zyc42, zyc43, zyc41, zyc44, zyc45]
noncomputable def zyr5 : List zC := [zyc46, zyc46, zyc47, zyc48, zyc10, zyc11, zyc10, zyc12, zyc49, zyc14, zyc15, zyc50, zyc14, zyc15, zyc51, zyc52]
noncomputable def zyr6 : List zC := [zyc8, zyc8, zyc8, zyc53, zyc54, zyc55, zyc56, zyc56, zyc57, zyc58, zyc52, zyc52, zyc8, zyc8, zyc59, zyc8]
noncomputable def zyr7 : List zC := [zyc8, zyc8, zyc8, zyc42, zyc40, zyc40, zyc8, zyc43, zyc60, zyc60, zyc61, zyc33, zyc62, zyc63, zycF, zycF]
noncomputable def zyh0 : zH := (126, [zyr0, zyr1, zyr2, zyr3, zyr4, zyr5, zyr6, zyr7], 0)
def zyv116 : zAV := .inl ((.ofNat 4, .ofNat 80), none)
noncomputable def zyc64 : zC := .inr (6, [zyv16, zyv116])
noncomputable def zyr8 : List zC := [zyc0, zyc64, zyc2, zyc3, zyc4, zyc5, zyc6, zyc7, zyc8, zyc8, zyc9, zyc10, zyc11, zyc10, zyc12, zyc13]
def zym0 : Nat := 340282366920938463500268095579187314688
noncomputable def zyh1 : zH := (126, [zyr8, zyr1, zyr2, zyr3, zyr4, zyr5, zyr6, zyr7], zym0)
noncomputable def zyc65 : zC := .inr (7, [zyv114, zyv114, zyv114, zyv114, zyv114, zyv114, zyv114, zyv114, zyv114, zyv114, zyv114, zyv114, zyv114, zyv15, zyv114, zyv15])
noncomputable def zyc66 : zC := .inr (6, [zyv114, zyv15])
noncomputable def zyc67 : zC := .inl (0, 80, [[], [zyv15]])
noncomputable def zyc68 : zC := .inr (0, [zyv114, zyv114, zyv114, zyv114, zyv114, zyv114, zyv15, zyv15, zyv15, zyv114, zyv15, zyv15])
noncomputable def zyc69 : zC := .inr (3, [zyv114, zyv114, zyv114, zyv114, zyv15, zyv15, zyv15, zyv15, zyv36])
noncomputable def zyc70 : zC := .inr (5, [zyv114, zyv114, zyv15, zyv15, zyv15, zyv15])
noncomputable def zyc71 : zC := .inr (2, [zyv114, zyv15, zyv15])
noncomputable def zyc72 : zC := .inl (9, 12, [[], [zyv114]])
noncomputable def zyc73 : zC := .inl (9, 2, [[], [zyv114]])
noncomputable def zyc74 : zC := .inr (4, [zyv114, zyv114, zyv114, zyv114, zyv114, zyv114, zyv114, zyv114, zyv114, zyv114, zyv114, zyv114, zyv114, zyv15, zyv100])
noncomputable def zyc75 : zC := .inl (1, 64, [[], [zyv100]])
noncomputable def zyc76 : zC := .inr (1, [zyv114, zyv15])
def zyv117 : zAV := .inr (.inr (.inl 95))
def zyv118 : zAV := .inr (.inr (.inl 96))
def zyv119 : zAV := .inr (.inr (.inl 97))
def zyv120 : zAV := .inr (.inr (.inl 98))
def zyv121 : zAV := .inr (.inr (.inl 99))
def zyv122 : zAV := .inr (.inr (.inl 100))
def zyv123 : zAV := .inl ((.ofNat 0, .ofNat 76), none)
def zyv124 : zAV := .inl ((.negSucc 0, .ofNat 80), none)
def zyv125 : zAV := .inr (.inr (.inl 101))
def zyv126 : zAV := .inr (.inr (.inl 102))
def zyv127 : zAV := .inr (.inr (.inl 103))
def zyv128 : zAV := .inl ((.ofNat 0, .ofNat 0), none)
def zyv129 : zAV := .inr (.inr (.inl 104))
def zyv130 : zAV := .inr (.inr (.inl 105))
def zyv131 : zAV := .inr (.inr (.inl 106))
def zyv132 : zAV := .inr (.inr (.inl 107))
def zyv133 : zAV := .inr (.inr (.inl 108))
def zyv134 : zAV := .inr (.inr (.inl 109))
def zyv135 : zAV := .inr (.inr (.inl 110))
def zyv136 : zAV := .inr (.inr (.inl 111))
def zyv137 : zAV := .inr (.inr (.inl 112))
def zyv138 : zAV := .inr (.inr (.inl 113))
def zyv139 : zAV := .inr (.inr (.inl 114))
def zyv140 : zAV := .inr (.inr (.inl 115))
def zyv141 : zAV := .inr (.inr (.inl 116))
def zyv142 : zAV := .inr (.inr (.inl 117))
def zyv143 : zAV := .inl ((.ofNat 1000000000, .ofNat 1000000000), none)
def zyv144 : zAV := .inr (.inr (.inl 118))
def zyv145 : zAV := .inr (.inr (.inl 119))
def zyv146 : zAV := .inr (.inr (.inl 120))
def zyv147 : zAV := .inr (.inr (.inl 121))
def zyv148 : zAV := .inr (.inr (.inl 122))
def zyv149 : zAV := .inr (.inr (.inl 123))
def zyv150 : zAV := .inr (.inr (.inl 124))
noncomputable def zyc77 : zC := .inr (8, [zyv117, zyv26, zyv27, zyv25, zyv118, zyv119, zyv120, zyv121, zyv17, zyv122, zyv25, zyv36, zyv114, zyv17, zyv123, zyv123, zyv124, zyv125, zyv126, zyv127, zyv35, zyv128, zyv129, zyv130, zyv13, zyv131, zyv132, zyv18, zyv18, zyv133, zyv134, zyv135, zyv136, zyv137, zyv138, zyv139, zyv140, zyv141, zyv142, zyv143, zyv144, zyv145, zyv146, zyv147, zyv15, zyv13, zyv15, zyv15, zyv148, zyv149, zyv150])
def zyv151 : zAV := .inl ((.negSucc 0, .ofNat 7), none)
noncomputable def zyc78 : zC := .inl (0, 27, [[zyv151, zyv151, zyv151, zyv151, zyv151, zyv151, zyv151, zyv151, zyv15, zyv15, zyv15, zyv15, zyv15, zyv15, zyv15, zyv15], [zyv36, zyv36, zyv36, zyv36, zyv36, zyv36, zyv36, zyv36, zyv15, zyv15, zyv15, zyv128, zyv128, zyv128, zyv128, zyv128]])
noncomputable def zyc79 : zC := .inl (3, 80, [[zyv115, zyv115, zyv115, zyv115, zyv115, zyv115, zyv115, zyv115, zyv115, zyv115, zyv115, zyv115, zyv115, zyv115, zyv115, zyv115], [zyv115, zyv115, zyv115, zyv115, zyv115, zyv115, zyv115, zyv115, zyv115, zyv115, zyv115, zyv115, zyv115, zyv115, zyv115, zyv115], [zyv115, zyv115, zyv115, zyv115, zyv115, zyv115, zyv115, zyv115, zyv115, zyv115, zyv115, zyv115, zyv115, zyv115, zyv115, zyv115], [zyv115, zyv115, zyv115, zyv115, zyv115, zyv115, zyv115, zyv115, zyv115, zyv115, zyv115, zyv115, zyv115, zyv115, zyv115, zyv115], [zyv115, zyv115, zyv115, zyv115, zyv115, zyv115, zyv115, zyv115, zyv115, zyv115, zyv115, zyv115, zyv115, zyv115, zyv115, zyv115], [zyv128, zyv128, zyv128, zyv128, zyv128, zyv128, zyv128, zyv128, zyv128, zyv128, zyv128, zyv128, zyv128, zyv128, zyv128, zyv128]])
noncomputable def zyc80 : zC := .inl (0, 24, [[zyv15, zyv15, zyv15, zyv15, zyv15, zyv15, zyv15, zyv15, zyv15, zyv15, zyv15, zyv15, zyv15, zyv15, zyv15, zyv15], [zyv15, zyv15, zyv15, zyv15, zyv15, zyv15, zyv15, zyv15, zyv128, zyv128, zyv128, zyv128, zyv128, zyv128, zyv128, zyv128]])
noncomputable def zyc81 : zC := .inl (0, 324, [[zyv151, zyv151, zyv151, zyv151, zyv151, zyv151, zyv151, zyv151, zyv15, zyv15, zyv15, zyv15, zyv15, zyv15, zyv15, zyv15], [zyv36, zyv36, zyv36, zyv36, zyv36, zyv36, zyv36, zyv36, zyv15, zyv15, zyv15, zyv151, zyv151, zyv151, zyv151, zyv151], [zyv151, zyv151, zyv151, zyv15, zyv15, zyv15, zyv15, zyv15, zyv15, zyv15, zyv15, zyv36, zyv36, zyv36, zyv36, zyv36], [zyv36, zyv36, zyv36, zyv15, zyv15, zyv15, zyv151, zyv151, zyv151, zyv151, zyv151, zyv151, zyv151, zyv151, zyv15, zyv15], [zyv15, zyv15, zyv15, zyv15, zyv15, zyv15, zyv36, zyv36, zyv36, zyv36, zyv36, zyv36, zyv36, zyv36, zyv15, zyv15], [zyv15, zyv151, zyv151, zyv151, zyv151, zyv151, zyv151, zyv151, zyv151, zyv15, zyv15, zyv15, zyv15, zyv15, zyv15, zyv15], [zyv15, zyv36, zyv36, zyv36, zyv36, zyv36, zyv36, zyv36, zyv36, zyv15, zyv15, zyv15, zyv151, zyv151, zyv151, zyv151], [zyv151, zyv151, zyv151, zyv151, zyv15, zyv15, zyv15, zyv15, zyv15, zyv15, zyv15, zyv15, zyv36, zyv36, zyv36, zyv36], [zyv36, zyv36, zyv36, zyv36, zyv15, zyv15, zyv15, zyv151, zyv151, zyv151, zyv151, zyv151, zyv151, zyv151, zyv151, zyv15], [zyv15, zyv15, zyv15, zyv15, zyv15, zyv15, zyv15, zyv36, zyv36, zyv36, zyv36, zyv36, zyv36, zyv36, zyv36, zyv15], [zyv15, zyv15, zyv151, zyv151, zyv151, zyv151, zyv151, zyv151, zyv151, zyv151, zyv15, zyv15, zyv15, zyv15, zyv15, zyv15], [zyv15, zyv15, zyv36, zyv36, zyv36, zyv36, zyv36, zyv36, zyv36, zyv36, zyv15, zyv15, zyv15, zyv151, zyv151, zyv151], [zyv151, zyv151, zyv151, zyv151, zyv151, zyv15, zyv15, zyv15, zyv15, zyv15, zyv15, zyv15, zyv15, zyv36, zyv36, zyv36], [zyv36, zyv36, zyv36, zyv36, zyv36, zyv15, zyv15, zyv15, zyv151, zyv151, zyv151, zyv151, zyv151, zyv151, zyv151, zyv151], [zyv15, zyv15, zyv15, zyv15, zyv15, zyv15, zyv15, zyv15, zyv36, zyv36, zyv36, zyv36, zyv36, zyv36, zyv36, zyv36], [zyv15, zyv15, zyv15, zyv151, zyv151, zyv151, zyv151, zyv151, zyv151, zyv151, zyv151, zyv15, zyv15, zyv15, zyv15, zyv15], [zyv15, zyv15, zyv15, zyv36, zyv36, zyv36, zyv36, zyv36, zyv36, zyv36, zyv36, zyv15, zyv15, zyv15, zyv151, zyv151], [zyv151, zyv151, zyv151, zyv151, zyv151, zyv151, zyv15, zyv15, zyv15, zyv15, zyv15, zyv15, zyv15, zyv15, zyv36, zyv36], [zyv36, zyv36, zyv36, zyv36, zyv36, zyv36, zyv15, zyv15, zyv15, zyv151, zyv151, zyv151, zyv151, zyv151, zyv151, zyv151], [zyv151, zyv15, zyv15, zyv15, zyv15, zyv15, zyv15, zyv15, zyv15, zyv36, zyv36, zyv36, zyv36, zyv36, zyv36, zyv36], [zyv36, zyv15, zyv15, zyv15, zyv128, zyv128, zyv128, zyv128, zyv128, zyv128, zyv128, zyv128, zyv128, zyv128, zyv128, zyv128]])
def zyv152 : zAV := .inl ((.negSucc 175, .ofNat 120), none)
noncomputable def zyc82 : zC := .inl (0, 240, [[], [zyv152]])
def zyv153 : zAV := .inl ((.ofNat 0, .ofNat 999), none)
noncomputable def zyc83 : zC := .inl (0, 64, [[], [zyv153]])
def zyv154 : zAV := .inl ((.negSucc 2147483647, .ofNat 1000000000), none)
noncomputable def zyc84 : zC := .inl (0, 2304, [[], [zyv154]])
noncomputable def zyc85 : zC := .inl (0, 8, [[zyv101, zyv101, zyv101, zyv101, zyv101, zyv101, zyv101, zyv101, zyv128, zyv128, zyv128, zyv128, zyv128, zyv128, zyv128, zyv128]])
noncomputable def zyc86 : zC := .inl (0, 54, [[zyv151, zyv151, zyv151, zyv151, zyv151, zyv151, zyv151, zyv151, zyv15, zyv15, zyv15, zyv15, zyv15, zyv15, zyv15, zyv15], [zyv36, zyv36, zyv36, zyv36, zyv36, zyv36, zyv36, zyv36, zyv15, zyv15, zyv15, zyv151, zyv151, zyv151, zyv151, zyv151], [zyv151, zyv151, zyv151, zyv15, zyv15, zyv15, zyv15, zyv15, zyv15, zyv15, zyv15, zyv36, zyv36, zyv36, zyv36, zyv36], [zyv36, zyv36, zyv36, zyv15, zyv15, zyv15, zyv128, zyv128, zyv128, zyv128, zyv128, zyv128, zyv128, zyv128, zyv128, zyv128]])
def zyv155 : zAV := .inr (.inl (.ofNat 0, .ofNat 0))
noncomputable def zyc87 : zC := .inl (1, 1, [[], [zyv155]])
noncomputable def zyr9 : List zC := [zyc65, zyc66, zyc67, zyc68, zyc8, zyc8, zyc8, zyc57, zyc8, zyc8, zyc69, zyc10, zyc10, zyc10, zyc12, zyc70]
noncomputable def zyr10 : List zC := [zyc8, zyc8, zyc70, zyc8, zyc8, zyc70, zyc8, zyc8, zyc71, zyc72, zyc70, zyc8, zyc8, zyc70, zyc8, zyc8]
noncomputable def zyr11 : List zC := [zyc70, zyc8, zyc8, zyc70, zyc8, zyc8, zyc70, zyc8, zyc8, zyc70, zyc8, zyc8, zyc70, zyc8, zyc8, zyc70]
noncomputable def zyr12 : List zC := [zyc8, zyc8, zyc70, zyc8, zyc8, zyc70, zyc8, zyc8, zyc70, zyc8, zyc8, zyc70, zyc8, zyc8, zyc73, zyc33]
noncomputable def zyr13 : List zC := [zyc74, zyc8, zyc8, zyc8, zyc8, zyc75, zyc45, zyc39, zyc39, zyc40, zyc41, zyc42, zyc43, zyc41, zyc76, zyc45]
noncomputable def zyr14 : List zC := [zyc60, zyc60, zyc60, zyc69, zyc10, zyc10, zyc10, zyc12, zyc70, zyc8, zyc8, zyc70, zyc8, zyc8, zyc77, zyc78]
noncomputable def zyr15 : List zC := [zyc8, zyc8, zyc8, zyc79, zyc54, zyc80, zyc56, zyc56, zyc57, zyc81, zyc78, zyc78, zyc8, zyc8, zyc82, zyc4]
noncomputable def zyr16 : List zC := [zyc4, zyc4, zyc4, zyc83, zyc84, zyc40, zyc85, zyc43, zyc46, zyc46, zyc86, zyc33, zyc62, zyc87, zycF, zycF]
noncomputable def zyh2 : zH := (126, [zyr9, zyr10, zyr11, zyr12, zyr13, zyr14, zyr15, zyr16], 0)
noncomputable def zyc88 : zC := .inr (8, [zyv117, zyv26, zyv27, zyv25, zyv118, zyv119, zyv120, zyv121, zyv116, zyv122, zyv25, zyv128, zyv114, zyv17, zyv123, zyv123, zyv124, zyv125, zyv126, zyv127, zyv35, zyv128, zyv129, zyv130, zyv13, zyv131, zyv132, zyv18, zyv18, zyv133, zyv134, zyv135, zyv136, zyv137, zyv138, zyv139, zyv140, zyv141, zyv142, zyv143, zyv144, zyv145, zyv146, zyv147, zyv15, zyv13, zyv15, zyv15, zyv148, zyv149, zyv150])
noncomputable def zyr17 : List zC := [zyc60, zyc60, zyc60, zyc69, zyc10, zyc10, zyc10, zyc12, zyc70, zyc8, zyc8, zyc70, zyc8, zyc8, zyc88, zyc78]
def zym1 : Nat := 211861736197293416848243766755922279101441967315979797700064010856915847158782645406332588525774124237135820798012051910727532997540494828604300780047940476602123645996595218861774093384396863703147768918203355330717014116930318297848336888874837480636125606187512271062508586912720901577979316142879303861588506228402273210052144362392101444730311664826487042625055425315855775437803683388209421953545967431247397650298504203842199334503767026151568364700554954868412666929582247712354746277677663897018317218323635774578981136412821281042415283538974301038812816794158472582225221306701682591830839533122463882759250580006982999268970647923559048187055237483962239364808337309676514413276316178297240059586590898678701745237116128386276225469865223990694135371121657472668483058665362900034001632927846723833759600502383365571330302433850067444217791323640141366933319227714651131203351970060595110748649958966672458247932404632126685509153377394021142343489280964113376421505993183283496504841876334245741378169169839875874374729099395842454727336282046894143293609413065306366060590303254767750579060245137033078360786605801177207175494939395201951731075444819767808802578062221646504239698751713792004120046801570853165032837952826436173743750186588774807573539270267446247296883157058109535400462980273077552933626728602084232022676380055516048682213196018800733222940153579998190632571545901450386400398842680768238809501617304954708215051373901125235818567487280395617707453276824078115279478268408412805257276733772921505764267500124585919465560222508802934931620963798015739842509620074308019472510881496131088974380724373149549640900669222245279053730935321226253253756971792296813915152455490699298004191617688850675303421496787425746290031047317873494712521535773727181352476031668646798987323266853321297436565092523568185282955288370917467903008829345300483277633801216089147310993292583239680
noncomputable def zyh3 : zH := (126, [zyr9, zyr10, zyr11, zyr12, zyr13, zyr17, zyr15, zyr16], zym1)
def zym2 : Nat := 36893488147419103232
noncomputable def zyh4 : zH := (126, [zyr0, zyr1, zyr2, zyr3, zyr4, zyr5, zyr6, zyr7], zym2)
noncomputable def zyc89 : zC := .inr (8, [zyv117, zyv26, zyv27, zyv25, zyv118, zyv119, zyv120, zyv121, zyv17, zyv122, zyv25, zyv128, zyv114, zyv17, zyv123, zyv123, zyv124, zyv125, zyv126, zyv127, zyv35, zyv128, zyv129, zyv130, zyv13, zyv131, zyv132, zyv18, zyv18, zyv133, zyv134, zyv135, zyv136, zyv137, zyv138, zyv139, zyv140, zyv141, zyv142, zyv143, zyv144, zyv145, zyv146, zyv147, zyv15, zyv13, zyv15, zyv15, zyv148, zyv149, zyv150])
noncomputable def zyr18 : List zC := [zyc60, zyc60, zyc60, zyc69, zyc10, zyc10, zyc10, zyc12, zyc70, zyc8, zyc8, zyc70, zyc8, zyc8, zyc89, zyc78]
def zym3 : Nat := 228526405820675667726886292365437767863219214723138622610410125128789718683692085267723334708545248180231850694411601357491772338708010292421524670566593329584141450248793888432239274948602139174113447185939519461726358723488663446946554691720017945388154306455455319205391522072852096145767017672377940765613744577986130121652438380794260187873675948721318502792895210447048791786175314192049907635455217960090883178647517902516097892670971487738613860638976120250897957787082388843057146813639387494787742561714044148382539564108053347207150960074187192240990935192930053950351749716333567333529239509249936141314463581223345255553594446060834685330060810391354313026726884691064383266613236234271631543086434212520759638765946199361448716496595599978426030527004097374425552994496124103729217938400183356511449524031411864579941466756040036670695643899664209972467863034142957585559417211204916862296710673630116752629142363310075437810399624331330477978620231168956046438165387376770571635270828184313144424879536183181791124807127572941362365819698275445120653790581567270334450294353263793514842664679099264609205733925272636626105332979080128870934313951686826401537812367083892011324590744993228386219018503707906929859795716443062555904936673973558531334686890179758220766449094114682764602634753737012803669137831436176571953465825133195560755979109552841629820587872933843278036861239197895065907672207124003345511177087173440615655385800208280889441757644420996060710102586264223190248969363746785863764406805065913984082261783895601493332375305177077479056309374885891488763371440979681748540590187720913866733809846809002745389646905737743975468303419817058245229457390528732771467269306619574707602475059409179677466651292515782724306159253110208238375777441368518671589862366411797001921563348434944
noncomputable def zyh5 : zH := (126, [zyr9, zyr10, zyr11, zyr12, zyr13, zyr18, zyr15, zyr16], zym3)
def zym4 : Nat := 39402006196394479214415027136064523887590553065872314978376303422675810018183012726987417195335564523283201415708672
noncomputable def zyh6 : zH := (126, [zyr0, zyr1, zyr2, zyr3, zyr4, zyr5, zyr6, zyr7], zym4)
noncomputable def zyc90 : zC := .inr (0, [zyv19, zyv20, zyv21, zyv22, zyv23, zyv24, zyv128, zyv26, zyv27, zyv28, zyv18, zyv18])
noncomputable def zyr19 : List zC := [zyc0, zyc1, zyc2, zyc90, zyc4, zyc5, zyc6, zyc7, zyc8, zyc8, zyc9, zyc10, zyc11, zyc10, zyc12, zyc13]
noncomputable def zyh7 : zH := (126, [zyr19, zyr1, zyr2, zyr3, zyr4, zyr5, zyr6, zyr7], zym4)
def zyv156 : zAV := .inl ((.ofNat 1, .ofNat 1), none)
noncomputable def zyc91 : zC := .inr (0, [zyv19, zyv20, zyv21, zyv22, zyv23, zyv24, zyv156, zyv26, zyv27, zyv28, zyv18, zyv18])
noncomputable def zyr20 : List zC := [zyc0, zyc1, zyc2, zyc91, zyc4, zyc5, zyc6, zyc7, zyc8, zyc8, zyc9, zyc10, zyc11, zyc10, zyc12, zyc13]
noncomputable def zyh8 : zH := (126, [zyr20, zyr1, zyr2, zyr3, zyr4, zyr5, zyr6, zyr7], zym4)
def zyv157 : zAV := .inl ((.ofNat 2, .ofNat 2), none)
noncomputable def zyc92 : zC := .inr (0, [zyv19, zyv20, zyv21, zyv22, zyv23, zyv24, zyv157, zyv26, zyv27, zyv28, zyv18, zyv18])
noncomputable def zyr21 : List zC := [zyc0, zyc1, zyc2, zyc92, zyc4, zyc5, zyc6, zyc7, zyc8, zyc8, zyc9, zyc10, zyc11, zyc10, zyc12, zyc13]
noncomputable def zyh9 : zH := (126, [zyr21, zyr1, zyr2, zyr3, zyr4, zyr5, zyr6, zyr7], zym4)
def zyv158 : zAV := .inl ((.ofNat 3, .ofNat 3), none)
noncomputable def zyc93 : zC := .inr (0, [zyv19, zyv20, zyv21, zyv22, zyv23, zyv24, zyv158, zyv26, zyv27, zyv28, zyv18, zyv18])
noncomputable def zyr22 : List zC := [zyc0, zyc1, zyc2, zyc93, zyc4, zyc5, zyc6, zyc7, zyc8, zyc8, zyc9, zyc10, zyc11, zyc10, zyc12, zyc13]
noncomputable def zyh10 : zH := (126, [zyr22, zyr1, zyr2, zyr3, zyr4, zyr5, zyr6, zyr7], zym4)
def zyv159 : zAV := .inl ((.ofNat 4, .ofNat 4), none)
noncomputable def zyc94 : zC := .inr (0, [zyv19, zyv20, zyv21, zyv22, zyv23, zyv24, zyv159, zyv26, zyv27, zyv28, zyv18, zyv18])
noncomputable def zyr23 : List zC := [zyc0, zyc1, zyc2, zyc94, zyc4, zyc5, zyc6, zyc7, zyc8, zyc8, zyc9, zyc10, zyc11, zyc10, zyc12, zyc13]
noncomputable def zyh11 : zH := (126, [zyr23, zyr1, zyr2, zyr3, zyr4, zyr5, zyr6, zyr7], zym4)
def zyv160 : zAV := .inl ((.ofNat 5, .ofNat 5), none)
noncomputable def zyc95 : zC := .inr (0, [zyv19, zyv20, zyv21, zyv22, zyv23, zyv24, zyv160, zyv26, zyv27, zyv28, zyv18, zyv18])
noncomputable def zyr24 : List zC := [zyc0, zyc1, zyc2, zyc95, zyc4, zyc5, zyc6, zyc7, zyc8, zyc8, zyc9, zyc10, zyc11, zyc10, zyc12, zyc13]
noncomputable def zyh12 : zH := (126, [zyr24, zyr1, zyr2, zyr3, zyr4, zyr5, zyr6, zyr7], zym4)
def zyv161 : zAV := .inl ((.ofNat 6, .ofNat 6), none)
noncomputable def zyc96 : zC := .inr (0, [zyv19, zyv20, zyv21, zyv22, zyv23, zyv24, zyv161, zyv26, zyv27, zyv28, zyv18, zyv18])
noncomputable def zyr25 : List zC := [zyc0, zyc1, zyc2, zyc96, zyc4, zyc5, zyc6, zyc7, zyc8, zyc8, zyc9, zyc10, zyc11, zyc10, zyc12, zyc13]
noncomputable def zyh13 : zH := (126, [zyr25, zyr1, zyr2, zyr3, zyr4, zyr5, zyr6, zyr7], zym4)
def zyv162 : zAV := .inl ((.ofNat 7, .ofNat 7), none)
noncomputable def zyc97 : zC := .inr (0, [zyv19, zyv20, zyv21, zyv22, zyv23, zyv24, zyv162, zyv26, zyv27, zyv28, zyv18, zyv18])
noncomputable def zyr26 : List zC := [zyc0, zyc1, zyc2, zyc97, zyc4, zyc5, zyc6, zyc7, zyc8, zyc8, zyc9, zyc10, zyc11, zyc10, zyc12, zyc13]
noncomputable def zyh14 : zH := (126, [zyr26, zyr1, zyr2, zyr3, zyr4, zyr5, zyr6, zyr7], zym4)
def zyv163 : zAV := .inl ((.ofNat 8, .ofNat 8), none)
noncomputable def zyc98 : zC := .inr (0, [zyv19, zyv20, zyv21, zyv22, zyv23, zyv24, zyv163, zyv26, zyv27, zyv28, zyv18, zyv18])
noncomputable def zyr27 : List zC := [zyc0, zyc1, zyc2, zyc98, zyc4, zyc5, zyc6, zyc7, zyc8, zyc8, zyc9, zyc10, zyc11, zyc10, zyc12, zyc13]
noncomputable def zyh15 : zH := (126, [zyr27, zyr1, zyr2, zyr3, zyr4, zyr5, zyr6, zyr7], zym4)
/-! X7_sign -/
noncomputable def zyx0a : List zAV := [.inr (.inr (.inl 0)), .inl ((.negSucc 2147483647, .ofNat 2147483647), none)]
def zyx0r : Option zAV := some (.inl ((.negSucc 0, .ofNat 80), none))
noncomputable def zyx0p : List zPw := []
noncomputable def zyx0d : zKw := (167, 2, 3, 420, zyx0a, zyh0, [(zyx0r, zyh1)])
noncomputable def zbzyx0e : Bool := zrunw zprog2 (zovW []) 100000 (zcutW [] none ((zyx0r, zyh1), 3, 420) zyx0p) 3 420 kX7_sign (zkin zyx0r zyh1) 0 (zargs 0 zyx0a, [], (zyh0.1, zyh0.2.1, 0), 0, 0)
/-! X8_sign -/
noncomputable def zyx1a : List zAV := [.inr (.inr (.inl 94)), .inl ((.negSucc 2147483647, .ofNat 2147483647), none)]
def zyx1r : Option zAV := some (.inl ((.negSucc 0, .ofNat 80), none))
noncomputable def zyx1p : List zPw := []
noncomputable def zyx1d : zKw := (280, 3, 2, 300, zyx1a, zyh2, [(zyx1r, zyh3)])
noncomputable def zbzyx1e : Bool := zrunw zprog2 (zovW []) 100000 (zcutW [] none ((zyx1r, zyh3), 2, 300) zyx1p) 2 300 k2X8_sign (zkin zyx1r zyh3) 0 (zargs 0 zyx1a, [], (zyh2.1, zyh2.2.1, 0), 0, 0)
/-! X7_end -/
noncomputable def zyx2a : List zAV := [.inr (.inr (.inl 0)), .inl ((.negSucc 2147483647, .ofNat 2147483647), none)]
def zyx2r : Option zAV := some (.inl ((.ofNat 0, .ofNat 1), none))
noncomputable def zyx2p : List zPw := []
noncomputable def zyx2d : zKw := (115, 2, 3, 420, zyx2a, zyh0, [(zyx2r, zyh4)])
noncomputable def zbzyx2e : Bool := zrunw zprog2 (zovW []) 100000 (zcutW [] none ((zyx2r, zyh4), 3, 420) zyx2p) 3 420 k2X7_end (zkin zyx2r zyh4) 0 (zargs 0 zyx2a, [], (zyh0.1, zyh0.2.1, 0), 0, 0)
/-! X8_end -/
noncomputable def zyx3a : List zAV := [.inr (.inr (.inl 94)), .inl ((.negSucc 2147483647, .ofNat 2147483647), none)]
def zyx3r : Option zAV := some (.inl ((.ofNat 0, .ofNat 1), none))
noncomputable def zyx3p : List zPw := []
noncomputable def zyx3d : zKw := (205, 2, 3, 420, zyx3a, zyh2, [(zyx3r, zyh5)])
noncomputable def zbzyx3e : Bool := zrunw zprog2 (zovW []) 100000 (zcutW [] none ((zyx3r, zyh5), 3, 420) zyx3p) 3 420 k2X8_end (zkin zyx3r zyh5) 0 (zargs 0 zyx3a, [], (zyh2.1, zyh2.2.1, 0), 0, 0)
/-! X0_readRiders -/
noncomputable def zyx4a : List zAV := [.inr (.inr (.inl 3)), .inr (.inr (.inl 1))]
def zyx4r : Option zAV := some (.inl ((.negSucc 76, .ofNat 8), none))
noncomputable def zyx4p : List zPw := [((27, ([(0, .inr (.inr (.inl 3))), (1, .inr (.inr (.inl 1))), (2, .inl ((.ofNat 0, .ofNat 76), some (2, .ofNat 0))), (3, .inl ((.ofNat 0, .ofNat 0), some (3, .ofNat 0))), (4, .inl ((.ofNat 0, .ofNat 0), some (4, .ofNat 0))), (5, .inl ((.ofNat 0, .ofNat 0), some (5, .ofNat 0)))], [], zyh7, 0, 0), [(5, .negSucc 1)], .ofNat 153), (zyx4r, zyh6), 4, 480),
  ((27, ([(0, .inr (.inr (.inl 3))), (1, .inr (.inr (.inl 1))), (2, .inl ((.ofNat 0, .ofNat 76), some (2, .ofNat 0))), (3, .inl ((.ofNat 0, .ofNat 0), some (3, .ofNat 0))), (4, .inl ((.ofNat 0, .ofNat 0), some (4, .ofNat 0))), (5, .inl ((.ofNat 0, .ofNat 0), some (5, .ofNat 0)))], [], zyh8, 0, 0), [(5, .negSucc 1)], .ofNat 153), (zyx4r, zyh6), 4, 480),
  ((27, ([(0, .inr (.inr (.inl 3))), (1, .inr (.inr (.inl 1))), (2, .inl ((.ofNat 0, .ofNat 76), some (2, .ofNat 0))), (3, .inl ((.ofNat 0, .ofNat 0), some (3, .ofNat 0))), (4, .inl ((.ofNat 0, .ofNat 0), some (4, .ofNat 0))), (5, .inl ((.ofNat 0, .ofNat 0), some (5, .ofNat 0)))], [], zyh9, 0, 0), [(5, .negSucc 1)], .ofNat 153), (zyx4r, zyh6), 4, 480),
  ((27, ([(0, .inr (.inr (.inl 3))), (1, .inr (.inr (.inl 1))), (2, .inl ((.ofNat 0, .ofNat 76), some (2, .ofNat 0))), (3, .inl ((.ofNat 0, .ofNat 0), some (3, .ofNat 0))), (4, .inl ((.ofNat 0, .ofNat 0), some (4, .ofNat 0))), (5, .inl ((.ofNat 0, .ofNat 0), some (5, .ofNat 0)))], [], zyh10, 0, 0), [(5, .negSucc 1)], .ofNat 153), (zyx4r, zyh6), 4, 480),
  ((27, ([(0, .inr (.inr (.inl 3))), (1, .inr (.inr (.inl 1))), (2, .inl ((.ofNat 0, .ofNat 76), some (2, .ofNat 0))), (3, .inl ((.ofNat 0, .ofNat 0), some (3, .ofNat 0))), (4, .inl ((.ofNat 0, .ofNat 0), some (4, .ofNat 0))), (5, .inl ((.ofNat 0, .ofNat 0), some (5, .ofNat 0)))], [], zyh11, 0, 0), [(5, .negSucc 1)], .ofNat 153), (zyx4r, zyh6), 4, 480),
  ((27, ([(0, .inr (.inr (.inl 3))), (1, .inr (.inr (.inl 1))), (2, .inl ((.ofNat 0, .ofNat 76), some (2, .ofNat 0))), (3, .inl ((.ofNat 0, .ofNat 0), some (3, .ofNat 0))), (4, .inl ((.ofNat 0, .ofNat 0), some (4, .ofNat 0))), (5, .inl ((.ofNat 0, .ofNat 0), some (5, .ofNat 0)))], [], zyh12, 0, 0), [(5, .negSucc 1)], .ofNat 153), (zyx4r, zyh6), 4, 480),
  ((27, ([(0, .inr (.inr (.inl 3))), (1, .inr (.inr (.inl 1))), (2, .inl ((.ofNat 0, .ofNat 76), some (2, .ofNat 0))), (3, .inl ((.ofNat 0, .ofNat 0), some (3, .ofNat 0))), (4, .inl ((.ofNat 0, .ofNat 0), some (4, .ofNat 0))), (5, .inl ((.ofNat 0, .ofNat 0), some (5, .ofNat 0)))], [], zyh13, 0, 0), [(5, .negSucc 1)], .ofNat 153), (zyx4r, zyh6), 4, 480),
  ((27, ([(0, .inr (.inr (.inl 3))), (1, .inr (.inr (.inl 1))), (2, .inl ((.ofNat 0, .ofNat 76), some (2, .ofNat 0))), (3, .inl ((.ofNat 0, .ofNat 0), some (3, .ofNat 0))), (4, .inl ((.ofNat 0, .ofNat 0), some (4, .ofNat 0))), (5, .inl ((.ofNat 0, .ofNat 0), some (5, .ofNat 0)))], [], zyh14, 0, 0), [(5, .negSucc 1)], .ofNat 153), (zyx4r, zyh6), 4, 480),
  ((27, ([(0, .inr (.inr (.inl 3))), (1, .inr (.inr (.inl 1))), (2, .inl ((.ofNat 0, .ofNat 76), some (2, .ofNat 0))), (3, .inl ((.ofNat 0, .ofNat 0), some (3, .ofNat 0))), (4, .inl ((.ofNat 0, .ofNat 0), some (4, .ofNat 0))), (5, .inl ((.ofNat 0, .ofNat 0), some (5, .ofNat 0)))], [], zyh15, 0, 0), [(5, .negSucc 1)], .ofNat 153), (zyx4r, zyh6), 4, 480),
  ((27, ([(0, .inr (.inr (.inl 3))), (1, .inr (.inr (.inl 1))), (2, .inl ((.ofNat 1, .ofNat 76), some (2, .ofNat 0))), (3, .inl ((.ofNat 1, .ofNat 1), some (3, .ofNat 0))), (4, .inl ((.ofNat 0, .ofNat 0), some (4, .ofNat 0))), (5, .inl ((.ofNat 1, .ofNat 1), some (5, .ofNat 0))), (6, .inl ((.ofNat 1, .ofNat 1), some (6, .ofNat 0)))], [], zyh7, 0, 0), [(5, .negSucc 1)], .ofNat 153), (zyx4r, zyh6), 4, 480),
  ((27, ([(0, .inr (.inr (.inl 3))), (1, .inr (.inr (.inl 1))), (2, .inl ((.ofNat 1, .ofNat 76), some (2, .ofNat 0))), (3, .inl ((.ofNat 1, .ofNat 1), some (3, .ofNat 0))), (4, .inl ((.ofNat 0, .ofNat 0), some (4, .ofNat 0))), (5, .inl ((.ofNat 1, .ofNat 1), some (5, .ofNat 0))), (6, .inl ((.ofNat 1, .ofNat 1), some (6, .ofNat 0)))], [], zyh8, 0, 0), [(5, .negSucc 1)], .ofNat 153), (zyx4r, zyh6), 4, 480),
  ((27, ([(0, .inr (.inr (.inl 3))), (1, .inr (.inr (.inl 1))), (2, .inl ((.ofNat 1, .ofNat 76), some (2, .ofNat 0))), (3, .inl ((.ofNat 1, .ofNat 1), some (3, .ofNat 0))), (4, .inl ((.ofNat 0, .ofNat 0), some (4, .ofNat 0))), (5, .inl ((.ofNat 1, .ofNat 1), some (5, .ofNat 0))), (6, .inl ((.ofNat 1, .ofNat 1), some (6, .ofNat 0)))], [], zyh9, 0, 0), [(5, .negSucc 1)], .ofNat 153), (zyx4r, zyh6), 4, 480),
  ((27, ([(0, .inr (.inr (.inl 3))), (1, .inr (.inr (.inl 1))), (2, .inl ((.ofNat 1, .ofNat 76), some (2, .ofNat 0))), (3, .inl ((.ofNat 1, .ofNat 1), some (3, .ofNat 0))), (4, .inl ((.ofNat 0, .ofNat 0), some (4, .ofNat 0))), (5, .inl ((.ofNat 1, .ofNat 1), some (5, .ofNat 0))), (6, .inl ((.ofNat 1, .ofNat 1), some (6, .ofNat 0)))], [], zyh10, 0, 0), [(5, .negSucc 1)], .ofNat 153), (zyx4r, zyh6), 4, 480),
  ((27, ([(0, .inr (.inr (.inl 3))), (1, .inr (.inr (.inl 1))), (2, .inl ((.ofNat 1, .ofNat 76), some (2, .ofNat 0))), (3, .inl ((.ofNat 1, .ofNat 1), some (3, .ofNat 0))), (4, .inl ((.ofNat 0, .ofNat 0), some (4, .ofNat 0))), (5, .inl ((.ofNat 1, .ofNat 1), some (5, .ofNat 0))), (6, .inl ((.ofNat 1, .ofNat 1), some (6, .ofNat 0)))], [], zyh11, 0, 0), [(5, .negSucc 1)], .ofNat 153), (zyx4r, zyh6), 4, 480),
  ((27, ([(0, .inr (.inr (.inl 3))), (1, .inr (.inr (.inl 1))), (2, .inl ((.ofNat 1, .ofNat 76), some (2, .ofNat 0))), (3, .inl ((.ofNat 1, .ofNat 1), some (3, .ofNat 0))), (4, .inl ((.ofNat 0, .ofNat 0), some (4, .ofNat 0))), (5, .inl ((.ofNat 1, .ofNat 1), some (5, .ofNat 0))), (6, .inl ((.ofNat 1, .ofNat 1), some (6, .ofNat 0)))], [], zyh12, 0, 0), [(5, .negSucc 1)], .ofNat 153), (zyx4r, zyh6), 4, 480),
  ((27, ([(0, .inr (.inr (.inl 3))), (1, .inr (.inr (.inl 1))), (2, .inl ((.ofNat 1, .ofNat 76), some (2, .ofNat 0))), (3, .inl ((.ofNat 1, .ofNat 1), some (3, .ofNat 0))), (4, .inl ((.ofNat 0, .ofNat 0), some (4, .ofNat 0))), (5, .inl ((.ofNat 1, .ofNat 1), some (5, .ofNat 0))), (6, .inl ((.ofNat 1, .ofNat 1), some (6, .ofNat 0)))], [], zyh13, 0, 0), [(5, .negSucc 1)], .ofNat 153), (zyx4r, zyh6), 4, 480),
  ((27, ([(0, .inr (.inr (.inl 3))), (1, .inr (.inr (.inl 1))), (2, .inl ((.ofNat 1, .ofNat 76), some (2, .ofNat 0))), (3, .inl ((.ofNat 1, .ofNat 1), some (3, .ofNat 0))), (4, .inl ((.ofNat 0, .ofNat 0), some (4, .ofNat 0))), (5, .inl ((.ofNat 1, .ofNat 1), some (5, .ofNat 0))), (6, .inl ((.ofNat 1, .ofNat 1), some (6, .ofNat 0)))], [], zyh14, 0, 0), [(5, .negSucc 1)], .ofNat 153), (zyx4r, zyh6), 4, 480),
  ((27, ([(0, .inr (.inr (.inl 3))), (1, .inr (.inr (.inl 1))), (2, .inl ((.ofNat 3, .ofNat 76), some (2, .ofNat 0))), (3, .inl ((.ofNat 0, .ofNat 0), some (3, .ofNat 0))), (4, .inl ((.ofNat 1, .ofNat 1), some (4, .ofNat 0))), (5, .inl ((.ofNat 3, .ofNat 76), some (5, .ofNat 0))), (6, .inl ((.ofNat 0, .ofNat 0), some (6, .ofNat 0)))], [], zyh7, 0, 0), [(5, .negSucc 1)], .ofNat 153), (zyx4r, zyh6), 4, 480),
  ((27, ([(0, .inr (.inr (.inl 3))), (1, .inr (.inr (.inl 1))), (2, .inl ((.ofNat 3, .ofNat 76), some (2, .ofNat 0))), (3, .inl ((.ofNat 0, .ofNat 0), some (3, .ofNat 0))), (4, .inl ((.ofNat 1, .ofNat 1), some (4, .ofNat 0))), (5, .inl ((.ofNat 3, .ofNat 76), some (5, .ofNat 0))), (6, .inl ((.ofNat 0, .ofNat 0), some (6, .ofNat 0)))], [], zyh8, 0, 0), [(5, .negSucc 1)], .ofNat 153), (zyx4r, zyh6), 4, 480),
  ((27, ([(0, .inr (.inr (.inl 3))), (1, .inr (.inr (.inl 1))), (2, .inl ((.ofNat 3, .ofNat 76), some (2, .ofNat 0))), (3, .inl ((.ofNat 0, .ofNat 0), some (3, .ofNat 0))), (4, .inl ((.ofNat 1, .ofNat 1), some (4, .ofNat 0))), (5, .inl ((.ofNat 3, .ofNat 76), some (5, .ofNat 0))), (6, .inl ((.ofNat 0, .ofNat 0), some (6, .ofNat 0)))], [], zyh9, 0, 0), [(5, .negSucc 1)], .ofNat 153), (zyx4r, zyh6), 4, 480),
  ((27, ([(0, .inr (.inr (.inl 3))), (1, .inr (.inr (.inl 1))), (2, .inl ((.ofNat 3, .ofNat 76), some (2, .ofNat 0))), (3, .inl ((.ofNat 0, .ofNat 0), some (3, .ofNat 0))), (4, .inl ((.ofNat 1, .ofNat 1), some (4, .ofNat 0))), (5, .inl ((.ofNat 3, .ofNat 76), some (5, .ofNat 0))), (6, .inl ((.ofNat 0, .ofNat 0), some (6, .ofNat 0)))], [], zyh10, 0, 0), [(5, .negSucc 1)], .ofNat 153), (zyx4r, zyh6), 4, 480),
  ((27, ([(0, .inr (.inr (.inl 3))), (1, .inr (.inr (.inl 1))), (2, .inl ((.ofNat 3, .ofNat 76), some (2, .ofNat 0))), (3, .inl ((.ofNat 0, .ofNat 0), some (3, .ofNat 0))), (4, .inl ((.ofNat 1, .ofNat 1), some (4, .ofNat 0))), (5, .inl ((.ofNat 3, .ofNat 76), some (5, .ofNat 0))), (6, .inl ((.ofNat 0, .ofNat 0), some (6, .ofNat 0)))], [], zyh11, 0, 0), [(5, .negSucc 1)], .ofNat 153), (zyx4r, zyh6), 4, 480),
  ((27, ([(0, .inr (.inr (.inl 3))), (1, .inr (.inr (.inl 1))), (2, .inl ((.ofNat 3, .ofNat 76), some (2, .ofNat 0))), (3, .inl ((.ofNat 0, .ofNat 0), some (3, .ofNat 0))), (4, .inl ((.ofNat 1, .ofNat 1), some (4, .ofNat 0))), (5, .inl ((.ofNat 3, .ofNat 76), some (5, .ofNat 0))), (6, .inl ((.ofNat 0, .ofNat 0), some (6, .ofNat 0)))], [], zyh12, 0, 0), [(5, .negSucc 1)], .ofNat 153), (zyx4r, zyh6), 4, 480),
  ((27, ([(0, .inr (.inr (.inl 3))), (1, .inr (.inr (.inl 1))), (2, .inl ((.ofNat 3, .ofNat 76), some (2, .ofNat 0))), (3, .inl ((.ofNat 0, .ofNat 0), some (3, .ofNat 0))), (4, .inl ((.ofNat 1, .ofNat 1), some (4, .ofNat 0))), (5, .inl ((.ofNat 3, .ofNat 76), some (5, .ofNat 0))), (6, .inl ((.ofNat 0, .ofNat 0), some (6, .ofNat 0)))], [], zyh13, 0, 0), [(5, .negSucc 1)], .ofNat 153), (zyx4r, zyh6), 4, 480),
  ((27, ([(0, .inr (.inr (.inl 3))), (1, .inr (.inr (.inl 1))), (2, .inl ((.ofNat 3, .ofNat 76), some (2, .ofNat 0))), (3, .inl ((.ofNat 0, .ofNat 0), some (3, .ofNat 0))), (4, .inl ((.ofNat 1, .ofNat 1), some (4, .ofNat 0))), (5, .inl ((.ofNat 3, .ofNat 76), some (5, .ofNat 0))), (6, .inl ((.ofNat 0, .ofNat 0), some (6, .ofNat 0)))], [], zyh14, 0, 0), [(5, .negSucc 1)], .ofNat 153), (zyx4r, zyh6), 4, 480),
  ((27, ([(0, .inr (.inr (.inl 3))), (1, .inr (.inr (.inl 1))), (2, .inl ((.ofNat 4, .ofNat 76), some (2, .ofNat 0))), (3, .inl ((.ofNat 1, .ofNat 1), some (3, .ofNat 0))), (4, .inl ((.ofNat 1, .ofNat 1), some (4, .ofNat 0))), (5, .inl ((.ofNat 4, .ofNat 76), some (5, .ofNat 0))), (6, .inl ((.ofNat 1, .ofNat 1), some (6, .ofNat 0)))], [], zyh7, 0, 0), [(5, .negSucc 1)], .ofNat 153), (zyx4r, zyh6), 4, 480),
  ((27, ([(0, .inr (.inr (.inl 3))), (1, .inr (.inr (.inl 1))), (2, .inl ((.ofNat 4, .ofNat 76), some (2, .ofNat 0))), (3, .inl ((.ofNat 1, .ofNat 1), some (3, .ofNat 0))), (4, .inl ((.ofNat 1, .ofNat 1), some (4, .ofNat 0))), (5, .inl ((.ofNat 4, .ofNat 76), some (5, .ofNat 0))), (6, .inl ((.ofNat 1, .ofNat 1), some (6, .ofNat 0)))], [], zyh8, 0, 0), [(5, .negSucc 1)], .ofNat 153), (zyx4r, zyh6), 4, 480),
  ((27, ([(0, .inr (.inr (.inl 3))), (1, .inr (.inr (.inl 1))), (2, .inl ((.ofNat 4, .ofNat 76), some (2, .ofNat 0))), (3, .inl ((.ofNat 1, .ofNat 1), some (3, .ofNat 0))), (4, .inl ((.ofNat 1, .ofNat 1), some (4, .ofNat 0))), (5, .inl ((.ofNat 4, .ofNat 76), some (5, .ofNat 0))), (6, .inl ((.ofNat 1, .ofNat 1), some (6, .ofNat 0)))], [], zyh9, 0, 0), [(5, .negSucc 1)], .ofNat 153), (zyx4r, zyh6), 4, 480),
  ((27, ([(0, .inr (.inr (.inl 3))), (1, .inr (.inr (.inl 1))), (2, .inl ((.ofNat 4, .ofNat 76), some (2, .ofNat 0))), (3, .inl ((.ofNat 1, .ofNat 1), some (3, .ofNat 0))), (4, .inl ((.ofNat 1, .ofNat 1), some (4, .ofNat 0))), (5, .inl ((.ofNat 4, .ofNat 76), some (5, .ofNat 0))), (6, .inl ((.ofNat 1, .ofNat 1), some (6, .ofNat 0)))], [], zyh10, 0, 0), [(5, .negSucc 1)], .ofNat 153), (zyx4r, zyh6), 4, 480),
  ((27, ([(0, .inr (.inr (.inl 3))), (1, .inr (.inr (.inl 1))), (2, .inl ((.ofNat 4, .ofNat 76), some (2, .ofNat 0))), (3, .inl ((.ofNat 1, .ofNat 1), some (3, .ofNat 0))), (4, .inl ((.ofNat 1, .ofNat 1), some (4, .ofNat 0))), (5, .inl ((.ofNat 4, .ofNat 76), some (5, .ofNat 0))), (6, .inl ((.ofNat 1, .ofNat 1), some (6, .ofNat 0)))], [], zyh11, 0, 0), [(5, .negSucc 1)], .ofNat 153), (zyx4r, zyh6), 4, 480),
  ((27, ([(0, .inr (.inr (.inl 3))), (1, .inr (.inr (.inl 1))), (2, .inl ((.ofNat 4, .ofNat 76), some (2, .ofNat 0))), (3, .inl ((.ofNat 1, .ofNat 1), some (3, .ofNat 0))), (4, .inl ((.ofNat 1, .ofNat 1), some (4, .ofNat 0))), (5, .inl ((.ofNat 4, .ofNat 76), some (5, .ofNat 0))), (6, .inl ((.ofNat 1, .ofNat 1), some (6, .ofNat 0)))], [], zyh12, 0, 0), [(5, .negSucc 1)], .ofNat 153), (zyx4r, zyh6), 4, 480),
  ((27, ([(0, .inr (.inr (.inl 3))), (1, .inr (.inr (.inl 1))), (2, .inl ((.ofNat 4, .ofNat 76), some (2, .ofNat 0))), (3, .inl ((.ofNat 1, .ofNat 1), some (3, .ofNat 0))), (4, .inl ((.ofNat 1, .ofNat 1), some (4, .ofNat 0))), (5, .inl ((.ofNat 4, .ofNat 76), some (5, .ofNat 0))), (6, .inl ((.ofNat 1, .ofNat 1), some (6, .ofNat 0)))], [], zyh13, 0, 0), [(5, .negSucc 1)], .ofNat 153), (zyx4r, zyh6), 4, 480),
  ((27, ([(0, .inr (.inr (.inl 3))), (1, .inr (.inr (.inl 1))), (2, .inl ((.ofNat 2, .ofNat 76), some (2, .ofNat 0))), (3, .inl ((.ofNat 2, .ofNat 2), some (3, .ofNat 0))), (4, .inl ((.ofNat 1, .ofNat 1), some (4, .ofNat 0))), (5, .inl ((.ofNat 2, .ofNat 76), some (5, .ofNat 0))), (6, .inl ((.ofNat 2, .ofNat 2), some (6, .ofNat 0)))], [], zyh7, 0, 0), [(5, .negSucc 1)], .ofNat 153), (zyx4r, zyh6), 4, 480),
  ((27, ([(0, .inr (.inr (.inl 3))), (1, .inr (.inr (.inl 1))), (2, .inl ((.ofNat 2, .ofNat 76), some (2, .ofNat 0))), (3, .inl ((.ofNat 2, .ofNat 2), some (3, .ofNat 0))), (4, .inl ((.ofNat 1, .ofNat 1), some (4, .ofNat 0))), (5, .inl ((.ofNat 2, .ofNat 76), some (5, .ofNat 0))), (6, .inl ((.ofNat 2, .ofNat 2), some (6, .ofNat 0)))], [], zyh8, 0, 0), [(5, .negSucc 1)], .ofNat 153), (zyx4r, zyh6), 4, 480),
  ((27, ([(0, .inr (.inr (.inl 3))), (1, .inr (.inr (.inl 1))), (2, .inl ((.ofNat 2, .ofNat 76), some (2, .ofNat 0))), (3, .inl ((.ofNat 2, .ofNat 2), some (3, .ofNat 0))), (4, .inl ((.ofNat 1, .ofNat 1), some (4, .ofNat 0))), (5, .inl ((.ofNat 2, .ofNat 76), some (5, .ofNat 0))), (6, .inl ((.ofNat 2, .ofNat 2), some (6, .ofNat 0)))], [], zyh9, 0, 0), [(5, .negSucc 1)], .ofNat 153), (zyx4r, zyh6), 4, 480),
  ((27, ([(0, .inr (.inr (.inl 3))), (1, .inr (.inr (.inl 1))), (2, .inl ((.ofNat 2, .ofNat 76), some (2, .ofNat 0))), (3, .inl ((.ofNat 2, .ofNat 2), some (3, .ofNat 0))), (4, .inl ((.ofNat 1, .ofNat 1), some (4, .ofNat 0))), (5, .inl ((.ofNat 2, .ofNat 76), some (5, .ofNat 0))), (6, .inl ((.ofNat 2, .ofNat 2), some (6, .ofNat 0)))], [], zyh10, 0, 0), [(5, .negSucc 1)], .ofNat 153), (zyx4r, zyh6), 4, 480),
  ((27, ([(0, .inr (.inr (.inl 3))), (1, .inr (.inr (.inl 1))), (2, .inl ((.ofNat 2, .ofNat 76), some (2, .ofNat 0))), (3, .inl ((.ofNat 2, .ofNat 2), some (3, .ofNat 0))), (4, .inl ((.ofNat 1, .ofNat 1), some (4, .ofNat 0))), (5, .inl ((.ofNat 2, .ofNat 76), some (5, .ofNat 0))), (6, .inl ((.ofNat 2, .ofNat 2), some (6, .ofNat 0)))], [], zyh11, 0, 0), [(5, .negSucc 1)], .ofNat 153), (zyx4r, zyh6), 4, 480),
  ((27, ([(0, .inr (.inr (.inl 3))), (1, .inr (.inr (.inl 1))), (2, .inl ((.ofNat 2, .ofNat 76), some (2, .ofNat 0))), (3, .inl ((.ofNat 2, .ofNat 2), some (3, .ofNat 0))), (4, .inl ((.ofNat 1, .ofNat 1), some (4, .ofNat 0))), (5, .inl ((.ofNat 2, .ofNat 76), some (5, .ofNat 0))), (6, .inl ((.ofNat 2, .ofNat 2), some (6, .ofNat 0)))], [], zyh12, 0, 0), [(5, .negSucc 1)], .ofNat 153), (zyx4r, zyh6), 4, 480),
  ((27, ([(0, .inr (.inr (.inl 3))), (1, .inr (.inr (.inl 1))), (2, .inl ((.ofNat 2, .ofNat 76), some (2, .ofNat 0))), (3, .inl ((.ofNat 2, .ofNat 2), some (3, .ofNat 0))), (4, .inl ((.ofNat 1, .ofNat 1), some (4, .ofNat 0))), (5, .inl ((.ofNat 2, .ofNat 76), some (5, .ofNat 0))), (6, .inl ((.ofNat 2, .ofNat 2), some (6, .ofNat 0)))], [], zyh13, 0, 0), [(5, .negSucc 1)], .ofNat 153), (zyx4r, zyh6), 4, 480),
  ((27, ([(0, .inr (.inr (.inl 3))), (1, .inr (.inr (.inl 1))), (2, .inl ((.ofNat 2, .ofNat 76), some (2, .ofNat 0))), (3, .inl ((.ofNat 2, .ofNat 2), some (3, .ofNat 0))), (4, .inl ((.ofNat 1, .ofNat 1), some (4, .ofNat 0))), (5, .inl ((.ofNat 2, .ofNat 76), some (5, .ofNat 0))), (6, .inl ((.ofNat 2, .ofNat 2), some (6, .ofNat 0)))], [], zyh14, 0, 0), [(5, .negSucc 1)], .ofNat 153), (zyx4r, zyh6), 4, 480),
  ((27, ([(0, .inr (.inr (.inl 3))), (1, .inr (.inr (.inl 1))), (2, .inl ((.ofNat 6, .ofNat 76), some (2, .ofNat 0))), (3, .inl ((.ofNat 0, .ofNat 0), some (3, .ofNat 0))), (4, .inl ((.ofNat 2, .ofNat 2), some (4, .ofNat 0))), (5, .inl ((.ofNat 6, .ofNat 76), some (5, .ofNat 0))), (6, .inl ((.ofNat 0, .ofNat 0), some (6, .ofNat 0)))], [], zyh7, 0, 0), [(5, .negSucc 1)], .ofNat 153), (zyx4r, zyh6), 4, 480),
  ((27, ([(0, .inr (.inr (.inl 3))), (1, .inr (.inr (.inl 1))), (2, .inl ((.ofNat 6, .ofNat 76), some (2, .ofNat 0))), (3, .inl ((.ofNat 0, .ofNat 0), some (3, .ofNat 0))), (4, .inl ((.ofNat 2, .ofNat 2), some (4, .ofNat 0))), (5, .inl ((.ofNat 6, .ofNat 76), some (5, .ofNat 0))), (6, .inl ((.ofNat 0, .ofNat 0), some (6, .ofNat 0)))], [], zyh8, 0, 0), [(5, .negSucc 1)], .ofNat 153), (zyx4r, zyh6), 4, 480),
  ((27, ([(0, .inr (.inr (.inl 3))), (1, .inr (.inr (.inl 1))), (2, .inl ((.ofNat 6, .ofNat 76), some (2, .ofNat 0))), (3, .inl ((.ofNat 0, .ofNat 0), some (3, .ofNat 0))), (4, .inl ((.ofNat 2, .ofNat 2), some (4, .ofNat 0))), (5, .inl ((.ofNat 6, .ofNat 76), some (5, .ofNat 0))), (6, .inl ((.ofNat 0, .ofNat 0), some (6, .ofNat 0)))], [], zyh9, 0, 0), [(5, .negSucc 1)], .ofNat 153), (zyx4r, zyh6), 4, 480),
  ((27, ([(0, .inr (.inr (.inl 3))), (1, .inr (.inr (.inl 1))), (2, .inl ((.ofNat 6, .ofNat 76), some (2, .ofNat 0))), (3, .inl ((.ofNat 0, .ofNat 0), some (3, .ofNat 0))), (4, .inl ((.ofNat 2, .ofNat 2), some (4, .ofNat 0))), (5, .inl ((.ofNat 6, .ofNat 76), some (5, .ofNat 0))), (6, .inl ((.ofNat 0, .ofNat 0), some (6, .ofNat 0)))], [], zyh10, 0, 0), [(5, .negSucc 1)], .ofNat 153), (zyx4r, zyh6), 4, 480),
  ((27, ([(0, .inr (.inr (.inl 3))), (1, .inr (.inr (.inl 1))), (2, .inl ((.ofNat 6, .ofNat 76), some (2, .ofNat 0))), (3, .inl ((.ofNat 0, .ofNat 0), some (3, .ofNat 0))), (4, .inl ((.ofNat 2, .ofNat 2), some (4, .ofNat 0))), (5, .inl ((.ofNat 6, .ofNat 76), some (5, .ofNat 0))), (6, .inl ((.ofNat 0, .ofNat 0), some (6, .ofNat 0)))], [], zyh11, 0, 0), [(5, .negSucc 1)], .ofNat 153), (zyx4r, zyh6), 4, 480),
  ((27, ([(0, .inr (.inr (.inl 3))), (1, .inr (.inr (.inl 1))), (2, .inl ((.ofNat 6, .ofNat 76), some (2, .ofNat 0))), (3, .inl ((.ofNat 0, .ofNat 0), some (3, .ofNat 0))), (4, .inl ((.ofNat 2, .ofNat 2), some (4, .ofNat 0))), (5, .inl ((.ofNat 6, .ofNat 76), some (5, .ofNat 0))), (6, .inl ((.ofNat 0, .ofNat 0), some (6, .ofNat 0)))], [], zyh12, 0, 0), [(5, .negSucc 1)], .ofNat 153), (zyx4r, zyh6), 4, 480),
  ((27, ([(0, .inr (.inr (.inl 3))), (1, .inr (.inr (.inl 1))), (2, .inl ((.ofNat 6, .ofNat 76), some (2, .ofNat 0))), (3, .inl ((.ofNat 0, .ofNat 0), some (3, .ofNat 0))), (4, .inl ((.ofNat 2, .ofNat 2), some (4, .ofNat 0))), (5, .inl ((.ofNat 6, .ofNat 76), some (5, .ofNat 0))), (6, .inl ((.ofNat 0, .ofNat 0), some (6, .ofNat 0)))], [], zyh13, 0, 0), [(5, .negSucc 1)], .ofNat 153), (zyx4r, zyh6), 4, 480),
  ((27, ([(0, .inr (.inr (.inl 3))), (1, .inr (.inr (.inl 1))), (2, .inl ((.ofNat 7, .ofNat 76), some (2, .ofNat 0))), (3, .inl ((.ofNat 1, .ofNat 1), some (3, .ofNat 0))), (4, .inl ((.ofNat 2, .ofNat 2), some (4, .ofNat 0))), (5, .inl ((.ofNat 7, .ofNat 76), some (5, .ofNat 0))), (6, .inl ((.ofNat 1, .ofNat 1), some (6, .ofNat 0)))], [], zyh7, 0, 0), [(5, .negSucc 1)], .ofNat 153), (zyx4r, zyh6), 4, 480),
  ((27, ([(0, .inr (.inr (.inl 3))), (1, .inr (.inr (.inl 1))), (2, .inl ((.ofNat 7, .ofNat 76), some (2, .ofNat 0))), (3, .inl ((.ofNat 1, .ofNat 1), some (3, .ofNat 0))), (4, .inl ((.ofNat 2, .ofNat 2), some (4, .ofNat 0))), (5, .inl ((.ofNat 7, .ofNat 76), some (5, .ofNat 0))), (6, .inl ((.ofNat 1, .ofNat 1), some (6, .ofNat 0)))], [], zyh8, 0, 0), [(5, .negSucc 1)], .ofNat 153), (zyx4r, zyh6), 4, 480),
  ((27, ([(0, .inr (.inr (.inl 3))), (1, .inr (.inr (.inl 1))), (2, .inl ((.ofNat 7, .ofNat 76), some (2, .ofNat 0))), (3, .inl ((.ofNat 1, .ofNat 1), some (3, .ofNat 0))), (4, .inl ((.ofNat 2, .ofNat 2), some (4, .ofNat 0))), (5, .inl ((.ofNat 7, .ofNat 76), some (5, .ofNat 0))), (6, .inl ((.ofNat 1, .ofNat 1), some (6, .ofNat 0)))], [], zyh9, 0, 0), [(5, .negSucc 1)], .ofNat 153), (zyx4r, zyh6), 4, 480),
  ((27, ([(0, .inr (.inr (.inl 3))), (1, .inr (.inr (.inl 1))), (2, .inl ((.ofNat 7, .ofNat 76), some (2, .ofNat 0))), (3, .inl ((.ofNat 1, .ofNat 1), some (3, .ofNat 0))), (4, .inl ((.ofNat 2, .ofNat 2), some (4, .ofNat 0))), (5, .inl ((.ofNat 7, .ofNat 76), some (5, .ofNat 0))), (6, .inl ((.ofNat 1, .ofNat 1), some (6, .ofNat 0)))], [], zyh10, 0, 0), [(5, .negSucc 1)], .ofNat 153), (zyx4r, zyh6), 4, 480),
  ((27, ([(0, .inr (.inr (.inl 3))), (1, .inr (.inr (.inl 1))), (2, .inl ((.ofNat 7, .ofNat 76), some (2, .ofNat 0))), (3, .inl ((.ofNat 1, .ofNat 1), some (3, .ofNat 0))), (4, .inl ((.ofNat 2, .ofNat 2), some (4, .ofNat 0))), (5, .inl ((.ofNat 7, .ofNat 76), some (5, .ofNat 0))), (6, .inl ((.ofNat 1, .ofNat 1), some (6, .ofNat 0)))], [], zyh11, 0, 0), [(5, .negSucc 1)], .ofNat 153), (zyx4r, zyh6), 4, 480),
  ((27, ([(0, .inr (.inr (.inl 3))), (1, .inr (.inr (.inl 1))), (2, .inl ((.ofNat 7, .ofNat 76), some (2, .ofNat 0))), (3, .inl ((.ofNat 1, .ofNat 1), some (3, .ofNat 0))), (4, .inl ((.ofNat 2, .ofNat 2), some (4, .ofNat 0))), (5, .inl ((.ofNat 7, .ofNat 76), some (5, .ofNat 0))), (6, .inl ((.ofNat 1, .ofNat 1), some (6, .ofNat 0)))], [], zyh12, 0, 0), [(5, .negSucc 1)], .ofNat 153), (zyx4r, zyh6), 4, 480),
  ((27, ([(0, .inr (.inr (.inl 3))), (1, .inr (.inr (.inl 1))), (2, .inl ((.ofNat 5, .ofNat 76), some (2, .ofNat 0))), (3, .inl ((.ofNat 2, .ofNat 2), some (3, .ofNat 0))), (4, .inl ((.ofNat 2, .ofNat 2), some (4, .ofNat 0))), (5, .inl ((.ofNat 5, .ofNat 76), some (5, .ofNat 0))), (6, .inl ((.ofNat 2, .ofNat 2), some (6, .ofNat 0)))], [], zyh7, 0, 0), [(5, .negSucc 1)], .ofNat 153), (zyx4r, zyh6), 4, 480),
  ((27, ([(0, .inr (.inr (.inl 3))), (1, .inr (.inr (.inl 1))), (2, .inl ((.ofNat 5, .ofNat 76), some (2, .ofNat 0))), (3, .inl ((.ofNat 2, .ofNat 2), some (3, .ofNat 0))), (4, .inl ((.ofNat 2, .ofNat 2), some (4, .ofNat 0))), (5, .inl ((.ofNat 5, .ofNat 76), some (5, .ofNat 0))), (6, .inl ((.ofNat 2, .ofNat 2), some (6, .ofNat 0)))], [], zyh8, 0, 0), [(5, .negSucc 1)], .ofNat 153), (zyx4r, zyh6), 4, 480),
  ((27, ([(0, .inr (.inr (.inl 3))), (1, .inr (.inr (.inl 1))), (2, .inl ((.ofNat 5, .ofNat 76), some (2, .ofNat 0))), (3, .inl ((.ofNat 2, .ofNat 2), some (3, .ofNat 0))), (4, .inl ((.ofNat 2, .ofNat 2), some (4, .ofNat 0))), (5, .inl ((.ofNat 5, .ofNat 76), some (5, .ofNat 0))), (6, .inl ((.ofNat 2, .ofNat 2), some (6, .ofNat 0)))], [], zyh9, 0, 0), [(5, .negSucc 1)], .ofNat 153), (zyx4r, zyh6), 4, 480),
  ((27, ([(0, .inr (.inr (.inl 3))), (1, .inr (.inr (.inl 1))), (2, .inl ((.ofNat 5, .ofNat 76), some (2, .ofNat 0))), (3, .inl ((.ofNat 2, .ofNat 2), some (3, .ofNat 0))), (4, .inl ((.ofNat 2, .ofNat 2), some (4, .ofNat 0))), (5, .inl ((.ofNat 5, .ofNat 76), some (5, .ofNat 0))), (6, .inl ((.ofNat 2, .ofNat 2), some (6, .ofNat 0)))], [], zyh10, 0, 0), [(5, .negSucc 1)], .ofNat 153), (zyx4r, zyh6), 4, 480),
  ((27, ([(0, .inr (.inr (.inl 3))), (1, .inr (.inr (.inl 1))), (2, .inl ((.ofNat 5, .ofNat 76), some (2, .ofNat 0))), (3, .inl ((.ofNat 2, .ofNat 2), some (3, .ofNat 0))), (4, .inl ((.ofNat 2, .ofNat 2), some (4, .ofNat 0))), (5, .inl ((.ofNat 5, .ofNat 76), some (5, .ofNat 0))), (6, .inl ((.ofNat 2, .ofNat 2), some (6, .ofNat 0)))], [], zyh11, 0, 0), [(5, .negSucc 1)], .ofNat 153), (zyx4r, zyh6), 4, 480),
  ((27, ([(0, .inr (.inr (.inl 3))), (1, .inr (.inr (.inl 1))), (2, .inl ((.ofNat 5, .ofNat 76), some (2, .ofNat 0))), (3, .inl ((.ofNat 2, .ofNat 2), some (3, .ofNat 0))), (4, .inl ((.ofNat 2, .ofNat 2), some (4, .ofNat 0))), (5, .inl ((.ofNat 5, .ofNat 76), some (5, .ofNat 0))), (6, .inl ((.ofNat 2, .ofNat 2), some (6, .ofNat 0)))], [], zyh12, 0, 0), [(5, .negSucc 1)], .ofNat 153), (zyx4r, zyh6), 4, 480),
  ((27, ([(0, .inr (.inr (.inl 3))), (1, .inr (.inr (.inl 1))), (2, .inl ((.ofNat 5, .ofNat 76), some (2, .ofNat 0))), (3, .inl ((.ofNat 2, .ofNat 2), some (3, .ofNat 0))), (4, .inl ((.ofNat 2, .ofNat 2), some (4, .ofNat 0))), (5, .inl ((.ofNat 5, .ofNat 76), some (5, .ofNat 0))), (6, .inl ((.ofNat 2, .ofNat 2), some (6, .ofNat 0)))], [], zyh13, 0, 0), [(5, .negSucc 1)], .ofNat 153), (zyx4r, zyh6), 4, 480),
  ((27, ([(0, .inr (.inr (.inl 3))), (1, .inr (.inr (.inl 1))), (2, .inl ((.ofNat 9, .ofNat 76), some (2, .ofNat 0))), (3, .inl ((.ofNat 0, .ofNat 0), some (3, .ofNat 0))), (4, .inl ((.ofNat 3, .ofNat 3), some (4, .ofNat 0))), (5, .inl ((.ofNat 9, .ofNat 76), some (5, .ofNat 0))), (6, .inl ((.ofNat 0, .ofNat 0), some (6, .ofNat 0)))], [], zyh7, 0, 0), [(5, .negSucc 1)], .ofNat 153), (zyx4r, zyh6), 4, 480),
  ((27, ([(0, .inr (.inr (.inl 3))), (1, .inr (.inr (.inl 1))), (2, .inl ((.ofNat 9, .ofNat 76), some (2, .ofNat 0))), (3, .inl ((.ofNat 0, .ofNat 0), some (3, .ofNat 0))), (4, .inl ((.ofNat 3, .ofNat 3), some (4, .ofNat 0))), (5, .inl ((.ofNat 9, .ofNat 76), some (5, .ofNat 0))), (6, .inl ((.ofNat 0, .ofNat 0), some (6, .ofNat 0)))], [], zyh8, 0, 0), [(5, .negSucc 1)], .ofNat 153), (zyx4r, zyh6), 4, 480),
  ((27, ([(0, .inr (.inr (.inl 3))), (1, .inr (.inr (.inl 1))), (2, .inl ((.ofNat 9, .ofNat 76), some (2, .ofNat 0))), (3, .inl ((.ofNat 0, .ofNat 0), some (3, .ofNat 0))), (4, .inl ((.ofNat 3, .ofNat 3), some (4, .ofNat 0))), (5, .inl ((.ofNat 9, .ofNat 76), some (5, .ofNat 0))), (6, .inl ((.ofNat 0, .ofNat 0), some (6, .ofNat 0)))], [], zyh9, 0, 0), [(5, .negSucc 1)], .ofNat 153), (zyx4r, zyh6), 4, 480),
  ((27, ([(0, .inr (.inr (.inl 3))), (1, .inr (.inr (.inl 1))), (2, .inl ((.ofNat 9, .ofNat 76), some (2, .ofNat 0))), (3, .inl ((.ofNat 0, .ofNat 0), some (3, .ofNat 0))), (4, .inl ((.ofNat 3, .ofNat 3), some (4, .ofNat 0))), (5, .inl ((.ofNat 9, .ofNat 76), some (5, .ofNat 0))), (6, .inl ((.ofNat 0, .ofNat 0), some (6, .ofNat 0)))], [], zyh10, 0, 0), [(5, .negSucc 1)], .ofNat 153), (zyx4r, zyh6), 4, 480),
  ((27, ([(0, .inr (.inr (.inl 3))), (1, .inr (.inr (.inl 1))), (2, .inl ((.ofNat 9, .ofNat 76), some (2, .ofNat 0))), (3, .inl ((.ofNat 0, .ofNat 0), some (3, .ofNat 0))), (4, .inl ((.ofNat 3, .ofNat 3), some (4, .ofNat 0))), (5, .inl ((.ofNat 9, .ofNat 76), some (5, .ofNat 0))), (6, .inl ((.ofNat 0, .ofNat 0), some (6, .ofNat 0)))], [], zyh11, 0, 0), [(5, .negSucc 1)], .ofNat 153), (zyx4r, zyh6), 4, 480),
  ((27, ([(0, .inr (.inr (.inl 3))), (1, .inr (.inr (.inl 1))), (2, .inl ((.ofNat 9, .ofNat 76), some (2, .ofNat 0))), (3, .inl ((.ofNat 0, .ofNat 0), some (3, .ofNat 0))), (4, .inl ((.ofNat 3, .ofNat 3), some (4, .ofNat 0))), (5, .inl ((.ofNat 9, .ofNat 76), some (5, .ofNat 0))), (6, .inl ((.ofNat 0, .ofNat 0), some (6, .ofNat 0)))], [], zyh12, 0, 0), [(5, .negSucc 1)], .ofNat 153), (zyx4r, zyh6), 4, 480),
  ((27, ([(0, .inr (.inr (.inl 3))), (1, .inr (.inr (.inl 1))), (2, .inl ((.ofNat 10, .ofNat 76), some (2, .ofNat 0))), (3, .inl ((.ofNat 1, .ofNat 1), some (3, .ofNat 0))), (4, .inl ((.ofNat 3, .ofNat 3), some (4, .ofNat 0))), (5, .inl ((.ofNat 10, .ofNat 76), some (5, .ofNat 0))), (6, .inl ((.ofNat 1, .ofNat 1), some (6, .ofNat 0)))], [], zyh7, 0, 0), [(5, .negSucc 1)], .ofNat 153), (zyx4r, zyh6), 4, 480),
  ((27, ([(0, .inr (.inr (.inl 3))), (1, .inr (.inr (.inl 1))), (2, .inl ((.ofNat 10, .ofNat 76), some (2, .ofNat 0))), (3, .inl ((.ofNat 1, .ofNat 1), some (3, .ofNat 0))), (4, .inl ((.ofNat 3, .ofNat 3), some (4, .ofNat 0))), (5, .inl ((.ofNat 10, .ofNat 76), some (5, .ofNat 0))), (6, .inl ((.ofNat 1, .ofNat 1), some (6, .ofNat 0)))], [], zyh8, 0, 0), [(5, .negSucc 1)], .ofNat 153), (zyx4r, zyh6), 4, 480),
  ((27, ([(0, .inr (.inr (.inl 3))), (1, .inr (.inr (.inl 1))), (2, .inl ((.ofNat 10, .ofNat 76), some (2, .ofNat 0))), (3, .inl ((.ofNat 1, .ofNat 1), some (3, .ofNat 0))), (4, .inl ((.ofNat 3, .ofNat 3), some (4, .ofNat 0))), (5, .inl ((.ofNat 10, .ofNat 76), some (5, .ofNat 0))), (6, .inl ((.ofNat 1, .ofNat 1), some (6, .ofNat 0)))], [], zyh9, 0, 0), [(5, .negSucc 1)], .ofNat 153), (zyx4r, zyh6), 4, 480),
  ((27, ([(0, .inr (.inr (.inl 3))), (1, .inr (.inr (.inl 1))), (2, .inl ((.ofNat 10, .ofNat 76), some (2, .ofNat 0))), (3, .inl ((.ofNat 1, .ofNat 1), some (3, .ofNat 0))), (4, .inl ((.ofNat 3, .ofNat 3), some (4, .ofNat 0))), (5, .inl ((.ofNat 10, .ofNat 76), some (5, .ofNat 0))), (6, .inl ((.ofNat 1, .ofNat 1), some (6, .ofNat 0)))], [], zyh10, 0, 0), [(5, .negSucc 1)], .ofNat 153), (zyx4r, zyh6), 4, 480),
  ((27, ([(0, .inr (.inr (.inl 3))), (1, .inr (.inr (.inl 1))), (2, .inl ((.ofNat 10, .ofNat 76), some (2, .ofNat 0))), (3, .inl ((.ofNat 1, .ofNat 1), some (3, .ofNat 0))), (4, .inl ((.ofNat 3, .ofNat 3), some (4, .ofNat 0))), (5, .inl ((.ofNat 10, .ofNat 76), some (5, .ofNat 0))), (6, .inl ((.ofNat 1, .ofNat 1), some (6, .ofNat 0)))], [], zyh11, 0, 0), [(5, .negSucc 1)], .ofNat 153), (zyx4r, zyh6), 4, 480),
  ((27, ([(0, .inr (.inr (.inl 3))), (1, .inr (.inr (.inl 1))), (2, .inl ((.ofNat 8, .ofNat 76), some (2, .ofNat 0))), (3, .inl ((.ofNat 2, .ofNat 2), some (3, .ofNat 0))), (4, .inl ((.ofNat 3, .ofNat 3), some (4, .ofNat 0))), (5, .inl ((.ofNat 8, .ofNat 76), some (5, .ofNat 0))), (6, .inl ((.ofNat 2, .ofNat 2), some (6, .ofNat 0)))], [], zyh7, 0, 0), [(5, .negSucc 1)], .ofNat 153), (zyx4r, zyh6), 4, 480),
  ((27, ([(0, .inr (.inr (.inl 3))), (1, .inr (.inr (.inl 1))), (2, .inl ((.ofNat 8, .ofNat 76), some (2, .ofNat 0))), (3, .inl ((.ofNat 2, .ofNat 2), some (3, .ofNat 0))), (4, .inl ((.ofNat 3, .ofNat 3), some (4, .ofNat 0))), (5, .inl ((.ofNat 8, .ofNat 76), some (5, .ofNat 0))), (6, .inl ((.ofNat 2, .ofNat 2), some (6, .ofNat 0)))], [], zyh8, 0, 0), [(5, .negSucc 1)], .ofNat 153), (zyx4r, zyh6), 4, 480),
  ((27, ([(0, .inr (.inr (.inl 3))), (1, .inr (.inr (.inl 1))), (2, .inl ((.ofNat 8, .ofNat 76), some (2, .ofNat 0))), (3, .inl ((.ofNat 2, .ofNat 2), some (3, .ofNat 0))), (4, .inl ((.ofNat 3, .ofNat 3), some (4, .ofNat 0))), (5, .inl ((.ofNat 8, .ofNat 76), some (5, .ofNat 0))), (6, .inl ((.ofNat 2, .ofNat 2), some (6, .ofNat 0)))], [], zyh9, 0, 0), [(5, .negSucc 1)], .ofNat 153), (zyx4r, zyh6), 4, 480),
  ((27, ([(0, .inr (.inr (.inl 3))), (1, .inr (.inr (.inl 1))), (2, .inl ((.ofNat 8, .ofNat 76), some (2, .ofNat 0))), (3, .inl ((.ofNat 2, .ofNat 2), some (3, .ofNat 0))), (4, .inl ((.ofNat 3, .ofNat 3), some (4, .ofNat 0))), (5, .inl ((.ofNat 8, .ofNat 76), some (5, .ofNat 0))), (6, .inl ((.ofNat 2, .ofNat 2), some (6, .ofNat 0)))], [], zyh10, 0, 0), [(5, .negSucc 1)], .ofNat 153), (zyx4r, zyh6), 4, 480),
  ((27, ([(0, .inr (.inr (.inl 3))), (1, .inr (.inr (.inl 1))), (2, .inl ((.ofNat 8, .ofNat 76), some (2, .ofNat 0))), (3, .inl ((.ofNat 2, .ofNat 2), some (3, .ofNat 0))), (4, .inl ((.ofNat 3, .ofNat 3), some (4, .ofNat 0))), (5, .inl ((.ofNat 8, .ofNat 76), some (5, .ofNat 0))), (6, .inl ((.ofNat 2, .ofNat 2), some (6, .ofNat 0)))], [], zyh11, 0, 0), [(5, .negSucc 1)], .ofNat 153), (zyx4r, zyh6), 4, 480),
  ((27, ([(0, .inr (.inr (.inl 3))), (1, .inr (.inr (.inl 1))), (2, .inl ((.ofNat 8, .ofNat 76), some (2, .ofNat 0))), (3, .inl ((.ofNat 2, .ofNat 2), some (3, .ofNat 0))), (4, .inl ((.ofNat 3, .ofNat 3), some (4, .ofNat 0))), (5, .inl ((.ofNat 8, .ofNat 76), some (5, .ofNat 0))), (6, .inl ((.ofNat 2, .ofNat 2), some (6, .ofNat 0)))], [], zyh12, 0, 0), [(5, .negSucc 1)], .ofNat 153), (zyx4r, zyh6), 4, 480),
  ((27, ([(0, .inr (.inr (.inl 3))), (1, .inr (.inr (.inl 1))), (2, .inl ((.ofNat 12, .ofNat 76), some (2, .ofNat 0))), (3, .inl ((.ofNat 0, .ofNat 0), some (3, .ofNat 0))), (4, .inl ((.ofNat 4, .ofNat 4), some (4, .ofNat 0))), (5, .inl ((.ofNat 12, .ofNat 76), some (5, .ofNat 0))), (6, .inl ((.ofNat 0, .ofNat 0), some (6, .ofNat 0)))], [], zyh7, 0, 0), [(5, .negSucc 1)], .ofNat 153), (zyx4r, zyh6), 4, 480),
  ((27, ([(0, .inr (.inr (.inl 3))), (1, .inr (.inr (.inl 1))), (2, .inl ((.ofNat 12, .ofNat 76), some (2, .ofNat 0))), (3, .inl ((.ofNat 0, .ofNat 0), some (3, .ofNat 0))), (4, .inl ((.ofNat 4, .ofNat 4), some (4, .ofNat 0))), (5, .inl ((.ofNat 12, .ofNat 76), some (5, .ofNat 0))), (6, .inl ((.ofNat 0, .ofNat 0), some (6, .ofNat 0)))], [], zyh8, 0, 0), [(5, .negSucc 1)], .ofNat 153), (zyx4r, zyh6), 4, 480),
  ((27, ([(0, .inr (.inr (.inl 3))), (1, .inr (.inr (.inl 1))), (2, .inl ((.ofNat 12, .ofNat 76), some (2, .ofNat 0))), (3, .inl ((.ofNat 0, .ofNat 0), some (3, .ofNat 0))), (4, .inl ((.ofNat 4, .ofNat 4), some (4, .ofNat 0))), (5, .inl ((.ofNat 12, .ofNat 76), some (5, .ofNat 0))), (6, .inl ((.ofNat 0, .ofNat 0), some (6, .ofNat 0)))], [], zyh9, 0, 0), [(5, .negSucc 1)], .ofNat 153), (zyx4r, zyh6), 4, 480),
  ((27, ([(0, .inr (.inr (.inl 3))), (1, .inr (.inr (.inl 1))), (2, .inl ((.ofNat 12, .ofNat 76), some (2, .ofNat 0))), (3, .inl ((.ofNat 0, .ofNat 0), some (3, .ofNat 0))), (4, .inl ((.ofNat 4, .ofNat 4), some (4, .ofNat 0))), (5, .inl ((.ofNat 12, .ofNat 76), some (5, .ofNat 0))), (6, .inl ((.ofNat 0, .ofNat 0), some (6, .ofNat 0)))], [], zyh10, 0, 0), [(5, .negSucc 1)], .ofNat 153), (zyx4r, zyh6), 4, 480),
  ((27, ([(0, .inr (.inr (.inl 3))), (1, .inr (.inr (.inl 1))), (2, .inl ((.ofNat 12, .ofNat 76), some (2, .ofNat 0))), (3, .inl ((.ofNat 0, .ofNat 0), some (3, .ofNat 0))), (4, .inl ((.ofNat 4, .ofNat 4), some (4, .ofNat 0))), (5, .inl ((.ofNat 12, .ofNat 76), some (5, .ofNat 0))), (6, .inl ((.ofNat 0, .ofNat 0), some (6, .ofNat 0)))], [], zyh11, 0, 0), [(5, .negSucc 1)], .ofNat 153), (zyx4r, zyh6), 4, 480),
  ((27, ([(0, .inr (.inr (.inl 3))), (1, .inr (.inr (.inl 1))), (2, .inl ((.ofNat 13, .ofNat 76), some (2, .ofNat 0))), (3, .inl ((.ofNat 1, .ofNat 1), some (3, .ofNat 0))), (4, .inl ((.ofNat 4, .ofNat 4), some (4, .ofNat 0))), (5, .inl ((.ofNat 13, .ofNat 76), some (5, .ofNat 0))), (6, .inl ((.ofNat 1, .ofNat 1), some (6, .ofNat 0)))], [], zyh7, 0, 0), [(5, .negSucc 1)], .ofNat 153), (zyx4r, zyh6), 4, 480),
  ((27, ([(0, .inr (.inr (.inl 3))), (1, .inr (.inr (.inl 1))), (2, .inl ((.ofNat 13, .ofNat 76), some (2, .ofNat 0))), (3, .inl ((.ofNat 1, .ofNat 1), some (3, .ofNat 0))), (4, .inl ((.ofNat 4, .ofNat 4), some (4, .ofNat 0))), (5, .inl ((.ofNat 13, .ofNat 76), some (5, .ofNat 0))), (6, .inl ((.ofNat 1, .ofNat 1), some (6, .ofNat 0)))], [], zyh8, 0, 0), [(5, .negSucc 1)], .ofNat 153), (zyx4r, zyh6), 4, 480),
  ((27, ([(0, .inr (.inr (.inl 3))), (1, .inr (.inr (.inl 1))), (2, .inl ((.ofNat 13, .ofNat 76), some (2, .ofNat 0))), (3, .inl ((.ofNat 1, .ofNat 1), some (3, .ofNat 0))), (4, .inl ((.ofNat 4, .ofNat 4), some (4, .ofNat 0))), (5, .inl ((.ofNat 13, .ofNat 76), some (5, .ofNat 0))), (6, .inl ((.ofNat 1, .ofNat 1), some (6, .ofNat 0)))], [], zyh9, 0, 0), [(5, .negSucc 1)], .ofNat 153), (zyx4r, zyh6), 4, 480),
  ((27, ([(0, .inr (.inr (.inl 3))), (1, .inr (.inr (.inl 1))), (2, .inl ((.ofNat 13, .ofNat 76), some (2, .ofNat 0))), (3, .inl ((.ofNat 1, .ofNat 1), some (3, .ofNat 0))), (4, .inl ((.ofNat 4, .ofNat 4), some (4, .ofNat 0))), (5, .inl ((.ofNat 13, .ofNat 76), some (5, .ofNat 0))), (6, .inl ((.ofNat 1, .ofNat 1), some (6, .ofNat 0)))], [], zyh10, 0, 0), [(5, .negSucc 1)], .ofNat 153), (zyx4r, zyh6), 4, 480),
  ((27, ([(0, .inr (.inr (.inl 3))), (1, .inr (.inr (.inl 1))), (2, .inl ((.ofNat 11, .ofNat 76), some (2, .ofNat 0))), (3, .inl ((.ofNat 2, .ofNat 2), some (3, .ofNat 0))), (4, .inl ((.ofNat 4, .ofNat 4), some (4, .ofNat 0))), (5, .inl ((.ofNat 11, .ofNat 76), some (5, .ofNat 0))), (6, .inl ((.ofNat 2, .ofNat 2), some (6, .ofNat 0)))], [], zyh7, 0, 0), [(5, .negSucc 1)], .ofNat 153), (zyx4r, zyh6), 4, 480),
  ((27, ([(0, .inr (.inr (.inl 3))), (1, .inr (.inr (.inl 1))), (2, .inl ((.ofNat 11, .ofNat 76), some (2, .ofNat 0))), (3, .inl ((.ofNat 2, .ofNat 2), some (3, .ofNat 0))), (4, .inl ((.ofNat 4, .ofNat 4), some (4, .ofNat 0))), (5, .inl ((.ofNat 11, .ofNat 76), some (5, .ofNat 0))), (6, .inl ((.ofNat 2, .ofNat 2), some (6, .ofNat 0)))], [], zyh8, 0, 0), [(5, .negSucc 1)], .ofNat 153), (zyx4r, zyh6), 4, 480),
  ((27, ([(0, .inr (.inr (.inl 3))), (1, .inr (.inr (.inl 1))), (2, .inl ((.ofNat 11, .ofNat 76), some (2, .ofNat 0))), (3, .inl ((.ofNat 2, .ofNat 2), some (3, .ofNat 0))), (4, .inl ((.ofNat 4, .ofNat 4), some (4, .ofNat 0))), (5, .inl ((.ofNat 11, .ofNat 76), some (5, .ofNat 0))), (6, .inl ((.ofNat 2, .ofNat 2), some (6, .ofNat 0)))], [], zyh9, 0, 0), [(5, .negSucc 1)], .ofNat 153), (zyx4r, zyh6), 4, 480),
  ((27, ([(0, .inr (.inr (.inl 3))), (1, .inr (.inr (.inl 1))), (2, .inl ((.ofNat 11, .ofNat 76), some (2, .ofNat 0))), (3, .inl ((.ofNat 2, .ofNat 2), some (3, .ofNat 0))), (4, .inl ((.ofNat 4, .ofNat 4), some (4, .ofNat 0))), (5, .inl ((.ofNat 11, .ofNat 76), some (5, .ofNat 0))), (6, .inl ((.ofNat 2, .ofNat 2), some (6, .ofNat 0)))], [], zyh10, 0, 0), [(5, .negSucc 1)], .ofNat 153), (zyx4r, zyh6), 4, 480),
  ((27, ([(0, .inr (.inr (.inl 3))), (1, .inr (.inr (.inl 1))), (2, .inl ((.ofNat 11, .ofNat 76), some (2, .ofNat 0))), (3, .inl ((.ofNat 2, .ofNat 2), some (3, .ofNat 0))), (4, .inl ((.ofNat 4, .ofNat 4), some (4, .ofNat 0))), (5, .inl ((.ofNat 11, .ofNat 76), some (5, .ofNat 0))), (6, .inl ((.ofNat 2, .ofNat 2), some (6, .ofNat 0)))], [], zyh11, 0, 0), [(5, .negSucc 1)], .ofNat 153), (zyx4r, zyh6), 4, 480),
  ((27, ([(0, .inr (.inr (.inl 3))), (1, .inr (.inr (.inl 1))), (2, .inl ((.ofNat 15, .ofNat 76), some (2, .ofNat 0))), (3, .inl ((.ofNat 0, .ofNat 0), some (3, .ofNat 0))), (4, .inl ((.ofNat 5, .ofNat 5), some (4, .ofNat 0))), (5, .inl ((.ofNat 15, .ofNat 76), some (5, .ofNat 0))), (6, .inl ((.ofNat 0, .ofNat 0), some (6, .ofNat 0)))], [], zyh7, 0, 0), [(5, .negSucc 1)], .ofNat 153), (zyx4r, zyh6), 4, 480),
  ((27, ([(0, .inr (.inr (.inl 3))), (1, .inr (.inr (.inl 1))), (2, .inl ((.ofNat 15, .ofNat 76), some (2, .ofNat 0))), (3, .inl ((.ofNat 0, .ofNat 0), some (3, .ofNat 0))), (4, .inl ((.ofNat 5, .ofNat 5), some (4, .ofNat 0))), (5, .inl ((.ofNat 15, .ofNat 76), some (5, .ofNat 0))), (6, .inl ((.ofNat 0, .ofNat 0), some (6, .ofNat 0)))], [], zyh8, 0, 0), [(5, .negSucc 1)], .ofNat 153), (zyx4r, zyh6), 4, 480),
  ((27, ([(0, .inr (.inr (.inl 3))), (1, .inr (.inr (.inl 1))), (2, .inl ((.ofNat 15, .ofNat 76), some (2, .ofNat 0))), (3, .inl ((.ofNat 0, .ofNat 0), some (3, .ofNat 0))), (4, .inl ((.ofNat 5, .ofNat 5), some (4, .ofNat 0))), (5, .inl ((.ofNat 15, .ofNat 76), some (5, .ofNat 0))), (6, .inl ((.ofNat 0, .ofNat 0), some (6, .ofNat 0)))], [], zyh9, 0, 0), [(5, .negSucc 1)], .ofNat 153), (zyx4r, zyh6), 4, 480),
  ((27, ([(0, .inr (.inr (.inl 3))), (1, .inr (.inr (.inl 1))), (2, .inl ((.ofNat 15, .ofNat 76), some (2, .ofNat 0))), (3, .inl ((.ofNat 0, .ofNat 0), some (3, .ofNat 0))), (4, .inl ((.ofNat 5, .ofNat 5), some (4, .ofNat 0))), (5, .inl ((.ofNat 15, .ofNat 76), some (5, .ofNat 0))), (6, .inl ((.ofNat 0, .ofNat 0), some (6, .ofNat 0)))], [], zyh10, 0, 0), [(5, .negSucc 1)], .ofNat 153), (zyx4r, zyh6), 4, 480),
  ((27, ([(0, .inr (.inr (.inl 3))), (1, .inr (.inr (.inl 1))), (2, .inl ((.ofNat 16, .ofNat 76), some (2, .ofNat 0))), (3, .inl ((.ofNat 1, .ofNat 1), some (3, .ofNat 0))), (4, .inl ((.ofNat 5, .ofNat 5), some (4, .ofNat 0))), (5, .inl ((.ofNat 16, .ofNat 76), some (5, .ofNat 0))), (6, .inl ((.ofNat 1, .ofNat 1), some (6, .ofNat 0)))], [], zyh7, 0, 0), [(5, .negSucc 1)], .ofNat 153), (zyx4r, zyh6), 4, 480),
  ((27, ([(0, .inr (.inr (.inl 3))), (1, .inr (.inr (.inl 1))), (2, .inl ((.ofNat 16, .ofNat 76), some (2, .ofNat 0))), (3, .inl ((.ofNat 1, .ofNat 1), some (3, .ofNat 0))), (4, .inl ((.ofNat 5, .ofNat 5), some (4, .ofNat 0))), (5, .inl ((.ofNat 16, .ofNat 76), some (5, .ofNat 0))), (6, .inl ((.ofNat 1, .ofNat 1), some (6, .ofNat 0)))], [], zyh8, 0, 0), [(5, .negSucc 1)], .ofNat 153), (zyx4r, zyh6), 4, 480),
  ((27, ([(0, .inr (.inr (.inl 3))), (1, .inr (.inr (.inl 1))), (2, .inl ((.ofNat 16, .ofNat 76), some (2, .ofNat 0))), (3, .inl ((.ofNat 1, .ofNat 1), some (3, .ofNat 0))), (4, .inl ((.ofNat 5, .ofNat 5), some (4, .ofNat 0))), (5, .inl ((.ofNat 16, .ofNat 76), some (5, .ofNat 0))), (6, .inl ((.ofNat 1, .ofNat 1), some (6, .ofNat 0)))], [], zyh9, 0, 0), [(5, .negSucc 1)], .ofNat 153), (zyx4r, zyh6), 4, 480),
  ((27, ([(0, .inr (.inr (.inl 3))), (1, .inr (.inr (.inl 1))), (2, .inl ((.ofNat 14, .ofNat 76), some (2, .ofNat 0))), (3, .inl ((.ofNat 2, .ofNat 2), some (3, .ofNat 0))), (4, .inl ((.ofNat 5, .ofNat 5), some (4, .ofNat 0))), (5, .inl ((.ofNat 14, .ofNat 76), some (5, .ofNat 0))), (6, .inl ((.ofNat 2, .ofNat 2), some (6, .ofNat 0)))], [], zyh7, 0, 0), [(5, .negSucc 1)], .ofNat 153), (zyx4r, zyh6), 4, 480),
  ((27, ([(0, .inr (.inr (.inl 3))), (1, .inr (.inr (.inl 1))), (2, .inl ((.ofNat 14, .ofNat 76), some (2, .ofNat 0))), (3, .inl ((.ofNat 2, .ofNat 2), some (3, .ofNat 0))), (4, .inl ((.ofNat 5, .ofNat 5), some (4, .ofNat 0))), (5, .inl ((.ofNat 14, .ofNat 76), some (5, .ofNat 0))), (6, .inl ((.ofNat 2, .ofNat 2), some (6, .ofNat 0)))], [], zyh8, 0, 0), [(5, .negSucc 1)], .ofNat 153), (zyx4r, zyh6), 4, 480),
  ((27, ([(0, .inr (.inr (.inl 3))), (1, .inr (.inr (.inl 1))), (2, .inl ((.ofNat 14, .ofNat 76), some (2, .ofNat 0))), (3, .inl ((.ofNat 2, .ofNat 2), some (3, .ofNat 0))), (4, .inl ((.ofNat 5, .ofNat 5), some (4, .ofNat 0))), (5, .inl ((.ofNat 14, .ofNat 76), some (5, .ofNat 0))), (6, .inl ((.ofNat 2, .ofNat 2), some (6, .ofNat 0)))], [], zyh9, 0, 0), [(5, .negSucc 1)], .ofNat 153), (zyx4r, zyh6), 4, 480),
  ((27, ([(0, .inr (.inr (.inl 3))), (1, .inr (.inr (.inl 1))), (2, .inl ((.ofNat 14, .ofNat 76), some (2, .ofNat 0))), (3, .inl ((.ofNat 2, .ofNat 2), some (3, .ofNat 0))), (4, .inl ((.ofNat 5, .ofNat 5), some (4, .ofNat 0))), (5, .inl ((.ofNat 14, .ofNat 76), some (5, .ofNat 0))), (6, .inl ((.ofNat 2, .ofNat 2), some (6, .ofNat 0)))], [], zyh10, 0, 0), [(5, .negSucc 1)], .ofNat 153), (zyx4r, zyh6), 4, 480),
  ((27, ([(0, .inr (.inr (.inl 3))), (1, .inr (.inr (.inl 1))), (2, .inl ((.ofNat 18, .ofNat 76), some (2, .ofNat 0))), (3, .inl ((.ofNat 0, .ofNat 0), some (3, .ofNat 0))), (4, .inl ((.ofNat 6, .ofNat 6), some (4, .ofNat 0))), (5, .inl ((.ofNat 18, .ofNat 76), some (5, .ofNat 0))), (6, .inl ((.ofNat 0, .ofNat 0), some (6, .ofNat 0)))], [], zyh7, 0, 0), [(5, .negSucc 1)], .ofNat 153), (zyx4r, zyh6), 4, 480),
  ((27, ([(0, .inr (.inr (.inl 3))), (1, .inr (.inr (.inl 1))), (2, .inl ((.ofNat 18, .ofNat 76), some (2, .ofNat 0))), (3, .inl ((.ofNat 0, .ofNat 0), some (3, .ofNat 0))), (4, .inl ((.ofNat 6, .ofNat 6), some (4, .ofNat 0))), (5, .inl ((.ofNat 18, .ofNat 76), some (5, .ofNat 0))), (6, .inl ((.ofNat 0, .ofNat 0), some (6, .ofNat 0)))], [], zyh8, 0, 0), [(5, .negSucc 1)], .ofNat 153), (zyx4r, zyh6), 4, 480),
  ((27, ([(0, .inr (.inr (.inl 3))), (1, .inr (.inr (.inl 1))), (2, .inl ((.ofNat 18, .ofNat 76), some (2, .ofNat 0))), (3, .inl ((.ofNat 0, .ofNat 0), some (3, .ofNat 0))), (4, .inl ((.ofNat 6, .ofNat 6), some (4, .ofNat 0))), (5, .inl ((.ofNat 18, .ofNat 76), some (5, .ofNat 0))), (6, .inl ((.ofNat 0, .ofNat 0), some (6, .ofNat 0)))], [], zyh9, 0, 0), [(5, .negSucc 1)], .ofNat 153), (zyx4r, zyh6), 4, 480),
  ((27, ([(0, .inr (.inr (.inl 3))), (1, .inr (.inr (.inl 1))), (2, .inl ((.ofNat 19, .ofNat 76), some (2, .ofNat 0))), (3, .inl ((.ofNat 1, .ofNat 1), some (3, .ofNat 0))), (4, .inl ((.ofNat 6, .ofNat 6), some (4, .ofNat 0))), (5, .inl ((.ofNat 19, .ofNat 76), some (5, .ofNat 0))), (6, .inl ((.ofNat 1, .ofNat 1), some (6, .ofNat 0)))], [], zyh7, 0, 0), [(5, .negSucc 1)], .ofNat 153), (zyx4r, zyh6), 4, 480),
  ((27, ([(0, .inr (.inr (.inl 3))), (1, .inr (.inr (.inl 1))), (2, .inl ((.ofNat 19, .ofNat 76), some (2, .ofNat 0))), (3, .inl ((.ofNat 1, .ofNat 1), some (3, .ofNat 0))), (4, .inl ((.ofNat 6, .ofNat 6), some (4, .ofNat 0))), (5, .inl ((.ofNat 19, .ofNat 76), some (5, .ofNat 0))), (6, .inl ((.ofNat 1, .ofNat 1), some (6, .ofNat 0)))], [], zyh8, 0, 0), [(5, .negSucc 1)], .ofNat 153), (zyx4r, zyh6), 4, 480),
  ((27, ([(0, .inr (.inr (.inl 3))), (1, .inr (.inr (.inl 1))), (2, .inl ((.ofNat 17, .ofNat 76), some (2, .ofNat 0))), (3, .inl ((.ofNat 2, .ofNat 2), some (3, .ofNat 0))), (4, .inl ((.ofNat 6, .ofNat 6), some (4, .ofNat 0))), (5, .inl ((.ofNat 17, .ofNat 76), some (5, .ofNat 0))), (6, .inl ((.ofNat 2, .ofNat 2), some (6, .ofNat 0)))], [], zyh7, 0, 0), [(5, .negSucc 1)], .ofNat 153), (zyx4r, zyh6), 4, 480),
  ((27, ([(0, .inr (.inr (.inl 3))), (1, .inr (.inr (.inl 1))), (2, .inl ((.ofNat 17, .ofNat 76), some (2, .ofNat 0))), (3, .inl ((.ofNat 2, .ofNat 2), some (3, .ofNat 0))), (4, .inl ((.ofNat 6, .ofNat 6), some (4, .ofNat 0))), (5, .inl ((.ofNat 17, .ofNat 76), some (5, .ofNat 0))), (6, .inl ((.ofNat 2, .ofNat 2), some (6, .ofNat 0)))], [], zyh8, 0, 0), [(5, .negSucc 1)], .ofNat 153), (zyx4r, zyh6), 4, 480),
  ((27, ([(0, .inr (.inr (.inl 3))), (1, .inr (.inr (.inl 1))), (2, .inl ((.ofNat 17, .ofNat 76), some (2, .ofNat 0))), (3, .inl ((.ofNat 2, .ofNat 2), some (3, .ofNat 0))), (4, .inl ((.ofNat 6, .ofNat 6), some (4, .ofNat 0))), (5, .inl ((.ofNat 17, .ofNat 76), some (5, .ofNat 0))), (6, .inl ((.ofNat 2, .ofNat 2), some (6, .ofNat 0)))], [], zyh9, 0, 0), [(5, .negSucc 1)], .ofNat 153), (zyx4r, zyh6), 4, 480),
  ((27, ([(0, .inr (.inr (.inl 3))), (1, .inr (.inr (.inl 1))), (2, .inl ((.ofNat 21, .ofNat 76), some (2, .ofNat 0))), (3, .inl ((.ofNat 0, .ofNat 0), some (3, .ofNat 0))), (4, .inl ((.ofNat 7, .ofNat 7), some (4, .ofNat 0))), (5, .inl ((.ofNat 21, .ofNat 76), some (5, .ofNat 0))), (6, .inl ((.ofNat 0, .ofNat 0), some (6, .ofNat 0)))], [], zyh7, 0, 0), [(5, .negSucc 1)], .ofNat 153), (zyx4r, zyh6), 4, 480),
  ((27, ([(0, .inr (.inr (.inl 3))), (1, .inr (.inr (.inl 1))), (2, .inl ((.ofNat 21, .ofNat 76), some (2, .ofNat 0))), (3, .inl ((.ofNat 0, .ofNat 0), some (3, .ofNat 0))), (4, .inl ((.ofNat 7, .ofNat 7), some (4, .ofNat 0))), (5, .inl ((.ofNat 21, .ofNat 76), some (5, .ofNat 0))), (6, .inl ((.ofNat 0, .ofNat 0), some (6, .ofNat 0)))], [], zyh8, 0, 0), [(5, .negSucc 1)], .ofNat 153), (zyx4r, zyh6), 4, 480),
  ((27, ([(0, .inr (.inr (.inl 3))), (1, .inr (.inr (.inl 1))), (2, .inl ((.ofNat 22, .ofNat 76), some (2, .ofNat 0))), (3, .inl ((.ofNat 1, .ofNat 1), some (3, .ofNat 0))), (4, .inl ((.ofNat 7, .ofNat 7), some (4, .ofNat 0))), (5, .inl ((.ofNat 22, .ofNat 76), some (5, .ofNat 0))), (6, .inl ((.ofNat 1, .ofNat 1), some (6, .ofNat 0)))], [], zyh7, 0, 0), [(5, .negSucc 1)], .ofNat 153), (zyx4r, zyh6), 4, 480),
  ((27, ([(0, .inr (.inr (.inl 3))), (1, .inr (.inr (.inl 1))), (2, .inl ((.ofNat 20, .ofNat 76), some (2, .ofNat 0))), (3, .inl ((.ofNat 2, .ofNat 2), some (3, .ofNat 0))), (4, .inl ((.ofNat 7, .ofNat 7), some (4, .ofNat 0))), (5, .inl ((.ofNat 20, .ofNat 76), some (5, .ofNat 0))), (6, .inl ((.ofNat 2, .ofNat 2), some (6, .ofNat 0)))], [], zyh7, 0, 0), [(5, .negSucc 1)], .ofNat 153), (zyx4r, zyh6), 4, 480),
  ((27, ([(0, .inr (.inr (.inl 3))), (1, .inr (.inr (.inl 1))), (2, .inl ((.ofNat 20, .ofNat 76), some (2, .ofNat 0))), (3, .inl ((.ofNat 2, .ofNat 2), some (3, .ofNat 0))), (4, .inl ((.ofNat 7, .ofNat 7), some (4, .ofNat 0))), (5, .inl ((.ofNat 20, .ofNat 76), some (5, .ofNat 0))), (6, .inl ((.ofNat 2, .ofNat 2), some (6, .ofNat 0)))], [], zyh8, 0, 0), [(5, .negSucc 1)], .ofNat 153), (zyx4r, zyh6), 4, 480),
  ((27, ([(0, .inr (.inr (.inl 3))), (1, .inr (.inr (.inl 1))), (2, .inl ((.ofNat 24, .ofNat 76), some (2, .ofNat 0))), (3, .inl ((.ofNat 0, .ofNat 0), some (3, .ofNat 0))), (4, .inl ((.ofNat 8, .ofNat 8), some (4, .ofNat 0))), (5, .inl ((.ofNat 24, .ofNat 76), some (5, .ofNat 0))), (6, .inl ((.ofNat 0, .ofNat 0), some (6, .ofNat 0)))], [], zyh7, 0, 0), [(5, .negSucc 1)], .ofNat 153), (zyx4r, zyh6), 4, 480),
  ((27, ([(0, .inr (.inr (.inl 3))), (1, .inr (.inr (.inl 1))), (2, .inl ((.ofNat 23, .ofNat 76), some (2, .ofNat 0))), (3, .inl ((.ofNat 2, .ofNat 2), some (3, .ofNat 0))), (4, .inl ((.ofNat 8, .ofNat 8), some (4, .ofNat 0))), (5, .inl ((.ofNat 23, .ofNat 76), some (5, .ofNat 0))), (6, .inl ((.ofNat 2, .ofNat 2), some (6, .ofNat 0)))], [], zyh7, 0, 0), [(5, .negSucc 1)], .ofNat 153), (zyx4r, zyh6), 4, 480)]
noncomputable def zyx4d : zKw := (27, 7, 4, 480, zyx4a, zyh0, [(zyx4r, zyh6)])
noncomputable def zbzyx4c : Bool := zchkX [(3, 6)] zprog2 (zovW []) 100000 k2X0_readRiders [] zyx4p zyx4p
noncomputable def zbzyx4e : Bool := zrunw zprog2 (zovW []) 100000 (zcutW [(3, 6)] none ((zyx4r, zyh6), 4, 480) zyx4p) 4 480 k2X0_readRiders (zkin zyx4r zyh6) 0 (zargs 0 zyx4a, [], (zyh0.1, zyh0.2.1, 0), 0, 0)
noncomputable def zyg0 : List Bool := [zbzyx0e, zbzyx1e, zbzyx2e, zbzyx3e, zbzyx4c, zbzyx4e]
set_option maxRecDepth 100000 in
theorem zyg0_ok : zall (fun b => b) zyg0 = true := by decide +kernel
theorem zyx0e : zrunw zprog2 (zovW []) 100000 (zcutW [] none ((zyx0r, zyh1), 3, 420) zyx0p) 3 420 kX7_sign (zkin zyx0r zyh1) 0 (zargs 0 zyx0a, [], (zyh0.1, zyh0.2.1, 0), 0, 0) = true := zall_ok zyg0_ok (k := 0) (a := zbzyx0e) rfl
theorem zyx0 {l : Launch} {D : va_G} {tys : List (ClassId × FieldType)} {o : zO} {z : Nat} (E : zEnv tys) : zKnW l D vwCl tys o z (zXX o z) zTs zprog2 zyx0d :=
  zkn_mk E (fun g => fun _ h => absurd h List.not_mem_nil) (show zget zprog2 167 = some mX7_sign from rfl) rfl (by decide) (by decide) (by decide) (by decide) (G := zyx0p) (fun _ h => absurd h List.not_mem_nil) zyx0e
theorem zyx1e : zrunw zprog2 (zovW []) 100000 (zcutW [] none ((zyx1r, zyh3), 2, 300) zyx1p) 2 300 k2X8_sign (zkin zyx1r zyh3) 0 (zargs 0 zyx1a, [], (zyh2.1, zyh2.2.1, 0), 0, 0) = true := zall_ok zyg0_ok (k := 1) (a := zbzyx1e) rfl
theorem zyx1 {l : Launch} {D : va_G} {tys : List (ClassId × FieldType)} {o : zO} {z : Nat} (E : zEnv tys) : zKnW l D vwCl tys o z (zXX o z) zTs zprog2 zyx1d :=
  zkn_mk E (fun g => fun _ h => absurd h List.not_mem_nil) (show zget zprog2 280 = some m2X8_sign from rfl) rfl (by decide) (by decide) (by decide) (by decide) (G := zyx1p) (fun _ h => absurd h List.not_mem_nil) zyx1e
theorem zyx2e : zrunw zprog2 (zovW []) 100000 (zcutW [] none ((zyx2r, zyh4), 3, 420) zyx2p) 3 420 k2X7_end (zkin zyx2r zyh4) 0 (zargs 0 zyx2a, [], (zyh0.1, zyh0.2.1, 0), 0, 0) = true := zall_ok zyg0_ok (k := 2) (a := zbzyx2e) rfl
theorem zyx2 {l : Launch} {D : va_G} {tys : List (ClassId × FieldType)} {o : zO} {z : Nat} (E : zEnv tys) : zKnW l D vwCl tys o z (zXX o z) zTs zprog2 zyx2d :=
  zkn_mk E (fun g => fun _ h => absurd h List.not_mem_nil) (show zget zprog2 115 = some m2X7_end from rfl) rfl (by decide) (by decide) (by decide) (by decide) (G := zyx2p) (fun _ h => absurd h List.not_mem_nil) zyx2e
theorem zyx3e : zrunw zprog2 (zovW []) 100000 (zcutW [] none ((zyx3r, zyh5), 3, 420) zyx3p) 3 420 k2X8_end (zkin zyx3r zyh5) 0 (zargs 0 zyx3a, [], (zyh2.1, zyh2.2.1, 0), 0, 0) = true := zall_ok zyg0_ok (k := 3) (a := zbzyx3e) rfl
theorem zyx3 {l : Launch} {D : va_G} {tys : List (ClassId × FieldType)} {o : zO} {z : Nat} (E : zEnv tys) : zKnW l D vwCl tys o z (zXX o z) zTs zprog2 zyx3d :=
  zkn_mk E (fun g => fun _ h => absurd h List.not_mem_nil) (show zget zprog2 205 = some m2X8_end from rfl) rfl (by decide) (by decide) (by decide) (by decide) (G := zyx3p) (fun _ h => absurd h List.not_mem_nil) zyx3e
theorem zyx4c : zchkX [(3, 6)] zprog2 (zovW []) 100000 k2X0_readRiders [] zyx4p zyx4p = true := zall_ok zyg0_ok (k := 4) (a := zbzyx4c) rfl
theorem zyx4e : zrunw zprog2 (zovW []) 100000 (zcutW [(3, 6)] none ((zyx4r, zyh6), 4, 480) zyx4p) 4 480 k2X0_readRiders (zkin zyx4r zyh6) 0 (zargs 0 zyx4a, [], (zyh0.1, zyh0.2.1, 0), 0, 0) = true := zall_ok zyg0_ok (k := 5) (a := zbzyx4e) rfl
theorem zyx4 {l : Launch} {D : va_G} {tys : List (ClassId × FieldType)} {o : zO} {z : Nat} (E : zEnv tys) : zKnW l D vwCl tys o z (zXX o z) zTs zprog2 zyx4d :=
  zkn_mk E (fun g => fun _ h => absurd h List.not_mem_nil) (show zget zprog2 27 = some m2X0_readRiders from rfl) rfl (by decide) (by decide) (by decide) (by decide) (G := zyx4p) (zkn_pt E (fun g => fun _ h => absurd h List.not_mem_nil) (show zget zprog2 27 = some m2X0_readRiders from rfl) (fun _ h => absurd h List.not_mem_nil) zyx4c) zyx4e

