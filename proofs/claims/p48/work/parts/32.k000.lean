noncomputable def zycF : zC := .inr (99, [])
def zyv0 : zAV := .inr (.inr (.inl 1))
def zyv1 : zAV := .inr (.inr (.inl 3))
def zyv2 : zAV := .inr (.inr (.inl 15))
def zyv3 : zAV := .inr (.inr (.inl 18))
def zyv4 : zAV := .inr (.inr (.inl 21))
def zyv5 : zAV := .inr (.inr (.inl 24))
def zyv6 : zAV := .inr (.inr (.inl 62))
def zyv7 : zAV := .inr (.inr (.inl 63))
def zyv8 : zAV := .inr (.inr (.inl 64))
def zyv9 : zAV := .inr (.inr (.inl 78))
def zyv10 : zAV := .inr (.inr (.inl 80))
def zyv11 : zAV := .inr (.inr (.inl 81))
def zyv12 : zAV := .inr (.inr (.inl 82))
def zyv13 : zAV := .inl ((.ofNat 0, .ofNat 12), none)
def zyv14 : zAV := .inr (.inr (.inl 83))
def zyv15 : zAV := .inl ((.negSucc 2147483647, .ofNat 2147483647), none)
noncomputable def zyc0 : zC := .inr (7, [zyv0, zyv1, zyv2, zyv3, zyv4, zyv5, zyv6, zyv7, zyv8, zyv9, zyv10, zyv11, zyv12, zyv13, zyv14, zyv15])
def zyv16 : zAV := .inr (.inr (.inl 2))
def zyv17 : zAV := .inl ((.ofNat 0, .ofNat 80), none)
noncomputable def zyc1 : zC := .inr (6, [zyv16, zyv17])
def zyv18 : zAV := .inl ((.ofNat 0, .ofNat 255), none)
noncomputable def zyc2 : zC := .inl (0, 80, [[], [zyv18]])
def zyv19 : zAV := .inr (.inr (.inl 4))
def zyv20 : zAV := .inr (.inr (.inl 5))
def zyv21 : zAV := .inr (.inr (.inl 6))
def zyv22 : zAV := .inr (.inr (.inl 7))
def zyv23 : zAV := .inr (.inr (.inl 8))
def zyv24 : zAV := .inr (.inr (.inl 9))
def zyv25 : zAV := .inl ((.ofNat 0, .ofNat 8), none)
def zyv26 : zAV := .inl ((.ofNat 1, .ofNat 8), none)
def zyv27 : zAV := .inl ((.ofNat 0, .ofNat 9), none)
def zyv28 : zAV := .inr (.inr (.inl 10))
noncomputable def zyc3 : zC := .inr (0, [zyv19, zyv20, zyv21, zyv22, zyv23, zyv24, zyv25, zyv26, zyv27, zyv28, zyv18, zyv18])
noncomputable def zyc4 : zC := .inl (0, 8, [[], [zyv18]])
def zyv29 : zAV := .inl ((.ofNat 0, .ofNat 4), none)
noncomputable def zyc5 : zC := .inl (0, 8, [[], [zyv29]])
noncomputable def zyc6 : zC := .inl (0, 8, [[], [zyv27]])
def zyv30 : zAV := .inl ((.negSucc 7, .ofNat 99), none)
noncomputable def zyc7 : zC := .inl (0, 7, [[], [zyv30]])
noncomputable def zyc8 : zC := .inl (0, 8, [[], [zyv15]])
def zyv31 : zAV := .inr (.inr (.inl 11))
def zyv32 : zAV := .inr (.inr (.inl 12))
def zyv33 : zAV := .inr (.inr (.inl 13))
def zyv34 : zAV := .inr (.inr (.inl 14))
def zyv35 : zAV := .inl ((.ofNat 0, .ofNat 40), none)
def zyv36 : zAV := .inl ((.ofNat 0, .ofNat 1), none)
noncomputable def zyc9 : zC := .inr (3, [zyv31, zyv32, zyv33, zyv34, zyv35, zyv35, zyv29, zyv15, zyv36])
noncomputable def zyc10 : zC := .inl (0, 40, [[], [zyv15]])
def zyv37 : zAV := .inl ((.ofNat 0, .ofNat 256), none)
noncomputable def zyc11 : zC := .inl (0, 40, [[], [zyv37]])
noncomputable def zyc12 : zC := .inl (2, 5, [[], [zyv36]])
def zyv38 : zAV := .inr (.inr (.inl 16))
def zyv39 : zAV := .inr (.inr (.inl 17))
noncomputable def zyc13 : zC := .inr (5, [zyv38, zyv39, zyv18, zyv15, zyv15, zyv15])
def zyv40 : zAV := .inl ((.negSucc 48, .ofNat 207), none)
noncomputable def zyc14 : zC := .inl (0, 8, [[], [zyv40]])
def zyv41 : zAV := .inl ((.ofNat 0, .ofNat 99), none)
noncomputable def zyc15 : zC := .inl (0, 8, [[], [zyv41]])
def zyv42 : zAV := .inr (.inr (.inl 19))
def zyv43 : zAV := .inr (.inr (.inl 20))
noncomputable def zyc16 : zC := .inr (5, [zyv42, zyv43, zyv18, zyv15, zyv15, zyv15])
def zyv44 : zAV := .inr (.inr (.inl 22))
def zyv45 : zAV := .inr (.inr (.inl 23))
noncomputable def zyc17 : zC := .inr (5, [zyv44, zyv45, zyv18, zyv15, zyv15, zyv15])
def zyv46 : zAV := .inr (.inr (.inl 25))
def zyv47 : zAV := .inl ((.ofNat 0, .ofNat 11), none)
noncomputable def zyc18 : zC := .inr (2, [zyv46, zyv47, zyv15])
def zyv48 : zAV := .inr (.inr (.inl 26))
def zyv49 : zAV := .inr (.inr (.inl 29))
def zyv50 : zAV := .inr (.inr (.inl 32))
def zyv51 : zAV := .inr (.inr (.inl 35))
def zyv52 : zAV := .inr (.inr (.inl 38))
def zyv53 : zAV := .inr (.inr (.inl 41))
def zyv54 : zAV := .inr (.inr (.inl 44))
def zyv55 : zAV := .inr (.inr (.inl 47))
def zyv56 : zAV := .inr (.inr (.inl 50))
def zyv57 : zAV := .inr (.inr (.inl 53))
def zyv58 : zAV := .inr (.inr (.inl 56))
def zyv59 : zAV := .inr (.inr (.inl 59))
def zyv60 : zAV := .inr (.inr (.inr (.inl false)))
noncomputable def zyc19 : zC := .inl (9, 12, [[zyv48, zyv49, zyv50, zyv51, zyv52, zyv53, zyv54, zyv55, zyv56, zyv57, zyv58, zyv59, zyv60, zyv60, zyv60, zyv60]])
def zyv61 : zAV := .inr (.inr (.inl 27))
def zyv62 : zAV := .inr (.inr (.inl 28))
noncomputable def zyc20 : zC := .inr (5, [zyv61, zyv62, zyv18, zyv15, zyv15, zyv15])
def zyv63 : zAV := .inr (.inr (.inl 30))
def zyv64 : zAV := .inr (.inr (.inl 31))
noncomputable def zyc21 : zC := .inr (5, [zyv63, zyv64, zyv18, zyv15, zyv15, zyv15])
def zyv65 : zAV := .inr (.inr (.inl 33))
def zyv66 : zAV := .inr (.inr (.inl 34))
noncomputable def zyc22 : zC := .inr (5, [zyv65, zyv66, zyv18, zyv15, zyv15, zyv15])
def zyv67 : zAV := .inr (.inr (.inl 36))
def zyv68 : zAV := .inr (.inr (.inl 37))
noncomputable def zyc23 : zC := .inr (5, [zyv67, zyv68, zyv18, zyv15, zyv15, zyv15])
def zyv69 : zAV := .inr (.inr (.inl 39))
def zyv70 : zAV := .inr (.inr (.inl 40))
noncomputable def zyc24 : zC := .inr (5, [zyv69, zyv70, zyv18, zyv15, zyv15, zyv15])
def zyv71 : zAV := .inr (.inr (.inl 42))
def zyv72 : zAV := .inr (.inr (.inl 43))
noncomputable def zyc25 : zC := .inr (5, [zyv71, zyv72, zyv18, zyv15, zyv15, zyv15])
def zyv73 : zAV := .inr (.inr (.inl 45))
def zyv74 : zAV := .inr (.inr (.inl 46))
noncomputable def zyc26 : zC := .inr (5, [zyv73, zyv74, zyv18, zyv15, zyv15, zyv15])
def zyv75 : zAV := .inr (.inr (.inl 48))
def zyv76 : zAV := .inr (.inr (.inl 49))
noncomputable def zyc27 : zC := .inr (5, [zyv75, zyv76, zyv18, zyv15, zyv15, zyv15])
def zyv77 : zAV := .inr (.inr (.inl 51))
def zyv78 : zAV := .inr (.inr (.inl 52))
noncomputable def zyc28 : zC := .inr (5, [zyv77, zyv78, zyv18, zyv15, zyv15, zyv15])
def zyv79 : zAV := .inr (.inr (.inl 54))
def zyv80 : zAV := .inr (.inr (.inl 55))
noncomputable def zyc29 : zC := .inr (5, [zyv79, zyv80, zyv18, zyv15, zyv15, zyv15])
def zyv81 : zAV := .inr (.inr (.inl 57))
def zyv82 : zAV := .inr (.inr (.inl 58))
noncomputable def zyc30 : zC := .inr (5, [zyv81, zyv82, zyv18, zyv15, zyv15, zyv15])
def zyv83 : zAV := .inr (.inr (.inl 60))
def zyv84 : zAV := .inr (.inr (.inl 61))
noncomputable def zyc31 : zC := .inr (5, [zyv83, zyv84, zyv18, zyv15, zyv15, zyv15])
def zyv85 : zAV := .inr (.inr (.inl 88))
def zyv86 : zAV := .inr (.inr (.inl 91))
noncomputable def zyc32 : zC := .inl (9, 2, [[zyv85, zyv86, zyv60, zyv60, zyv60, zyv60, zyv60, zyv60, zyv60, zyv60, zyv60, zyv60, zyv60, zyv60, zyv60, zyv60]])
noncomputable def zyc33 : zC := .inl (2, 2, [[], [zyv36]])
def zyv87 : zAV := .inr (.inr (.inl 65))
def zyv88 : zAV := .inr (.inr (.inl 66))
def zyv89 : zAV := .inr (.inr (.inl 67))
def zyv90 : zAV := .inr (.inr (.inl 68))
def zyv91 : zAV := .inr (.inr (.inl 69))
def zyv92 : zAV := .inr (.inr (.inl 70))
def zyv93 : zAV := .inr (.inr (.inl 71))
def zyv94 : zAV := .inr (.inr (.inl 72))
def zyv95 : zAV := .inr (.inr (.inl 73))
def zyv96 : zAV := .inr (.inr (.inl 74))
def zyv97 : zAV := .inr (.inr (.inl 75))
def zyv98 : zAV := .inr (.inr (.inl 76))
def zyv99 : zAV := .inr (.inr (.inl 77))
def zyv100 : zAV := .inr (.inl (.negSucc 9223372036854775807, .ofNat 9223372036854775807))
noncomputable def zyc34 : zC := .inr (4, [zyv87, zyv88, zyv89, zyv90, zyv91, zyv92, zyv93, zyv94, zyv95, zyv96, zyv97, zyv98, zyv99, zyv18, zyv100])
def zyv101 : zAV := .inl ((.ofNat 0, .ofNat 7), none)
noncomputable def zyc35 : zC := .inl (0, 8, [[], [zyv101]])
def zyv102 : zAV := .inl ((.negSucc 8, .ofNat 9), none)
noncomputable def zyc36 : zC := .inl (0, 8, [[], [zyv102]])
def zyv103 : zAV := .inr (.inl (.ofNat 0, .ofNat 68719476736))
noncomputable def zyc37 : zC := .inl (1, 64, [[], [zyv103]])
def zyv104 : zAV := .inr (.inl (.ofNat 0, .ofNat 1000))
noncomputable def zyc38 : zC := .inl (1, 8, [[], [zyv104]])
noncomputable def zyc39 : zC := .inl (1, 256, [[], [zyv100]])
noncomputable def zyc40 : zC := .inl (0, 2304, [[], [zyv15]])
noncomputable def zyc41 : zC := .inl (0, 256, [[], [zyv15]])
noncomputable def zyc42 : zC := .inl (0, 64, [[], [zyv15]])
noncomputable def zyc43 : zC := .inl (2, 256, [[], [zyv36]])
def zyv105 : zAV := .inr (.inr (.inl 79))
noncomputable def zyc44 : zC := .inr (1, [zyv105, zyv25])
noncomputable def zyc45 : zC := .inl (1, 8, [[], [zyv100]])
noncomputable def zyc46 : zC := .inl (0, 12, [[], [zyv101]])
noncomputable def zyc47 : zC := .inl (0, 12, [[], [zyv36]])
def zyv106 : zAV := .inr (.inr (.inl 84))
def zyv107 : zAV := .inr (.inr (.inl 85))
def zyv108 : zAV := .inr (.inr (.inl 86))
def zyv109 : zAV := .inr (.inr (.inl 87))
noncomputable def zyc48 : zC := .inr (3, [zyv106, zyv107, zyv108, zyv109, zyv35, zyv35, zyv29, zyv15, zyv36])
def zyv110 : zAV := .inr (.inr (.inl 89))
def zyv111 : zAV := .inr (.inr (.inl 90))
noncomputable def zyc49 : zC := .inr (5, [zyv110, zyv111, zyv18, zyv15, zyv15, zyv15])
def zyv112 : zAV := .inr (.inr (.inl 92))
def zyv113 : zAV := .inr (.inr (.inl 93))
noncomputable def zyc50 : zC := .inr (5, [zyv112, zyv113, zyv18, zyv15, zyv15, zyv15])
def zyv114 : zAV := .inr (.inr (.inl 95))
def zyv115 : zAV := .inr (.inr (.inl 96))
def zyv116 : zAV := .inr (.inr (.inl 97))
def zyv117 : zAV := .inr (.inr (.inl 98))
def zyv118 : zAV := .inr (.inr (.inl 99))
def zyv119 : zAV := .inr (.inr (.inl 100))
def zyv120 : zAV := .inr (.inr (.inr (.inr 100)))
def zyv121 : zAV := .inl ((.ofNat 0, .ofNat 76), none)
def zyv122 : zAV := .inl ((.negSucc 0, .ofNat 80), none)
def zyv123 : zAV := .inr (.inr (.inl 101))
def zyv124 : zAV := .inr (.inr (.inl 102))
def zyv125 : zAV := .inr (.inr (.inl 103))
def zyv126 : zAV := .inl ((.ofNat 0, .ofNat 0), none)
def zyv127 : zAV := .inr (.inr (.inl 104))
def zyv128 : zAV := .inr (.inr (.inl 105))
def zyv129 : zAV := .inr (.inr (.inl 106))
def zyv130 : zAV := .inr (.inr (.inl 107))
def zyv131 : zAV := .inr (.inr (.inl 108))
def zyv132 : zAV := .inr (.inr (.inl 109))
def zyv133 : zAV := .inr (.inr (.inl 110))
def zyv134 : zAV := .inr (.inr (.inl 111))
def zyv135 : zAV := .inr (.inr (.inl 112))
def zyv136 : zAV := .inr (.inr (.inl 113))
def zyv137 : zAV := .inr (.inr (.inl 114))
def zyv138 : zAV := .inr (.inr (.inl 115))
def zyv139 : zAV := .inr (.inr (.inl 116))
def zyv140 : zAV := .inr (.inr (.inl 117))
def zyv141 : zAV := .inl ((.ofNat 1000000000, .ofNat 1000000000), none)
def zyv142 : zAV := .inr (.inr (.inl 118))
def zyv143 : zAV := .inr (.inr (.inl 119))
def zyv144 : zAV := .inr (.inr (.inl 120))
def zyv145 : zAV := .inr (.inr (.inl 121))
def zyv146 : zAV := .inr (.inr (.inl 122))
def zyv147 : zAV := .inr (.inr (.inl 123))
def zyv148 : zAV := .inr (.inr (.inl 124))
noncomputable def zyc51 : zC := .inr (8, [zyv114, zyv26, zyv27, zyv25, zyv115, zyv116, zyv117, zyv118, zyv17, zyv119, zyv25, zyv36, zyv120, zyv17, zyv121, zyv121, zyv122, zyv123, zyv124, zyv125, zyv35, zyv126, zyv127, zyv128, zyv13, zyv129, zyv130, zyv18, zyv18, zyv131, zyv132, zyv133, zyv134, zyv135, zyv136, zyv137, zyv138, zyv139, zyv140, zyv141, zyv142, zyv143, zyv144, zyv145, zyv15, zyv13, zyv15, zyv15, zyv146, zyv147, zyv148])
def zyv149 : zAV := .inl ((.negSucc 0, .ofNat 7), none)
noncomputable def zyc52 : zC := .inl (0, 27, [[zyv149, zyv149, zyv149, zyv149, zyv149, zyv149, zyv149, zyv149, zyv15, zyv15, zyv15, zyv15, zyv15, zyv15, zyv15, zyv15], [zyv36, zyv36, zyv36, zyv36, zyv36, zyv36, zyv36, zyv36, zyv15, zyv15, zyv15, zyv126, zyv126, zyv126, zyv126, zyv126]])
def zyv150 : zAV := .inl ((.negSucc 127, .ofNat 127), none)
noncomputable def zyc53 : zC := .inl (3, 80, [[zyv150, zyv150, zyv150, zyv150, zyv150, zyv150, zyv150, zyv150, zyv150, zyv150, zyv150, zyv150, zyv150, zyv150, zyv150, zyv150], [zyv150, zyv150, zyv150, zyv150, zyv150, zyv150, zyv150, zyv150, zyv150, zyv150, zyv150, zyv150, zyv150, zyv150, zyv150, zyv150], [zyv150, zyv150, zyv150, zyv150, zyv150, zyv150, zyv150, zyv150, zyv150, zyv150, zyv150, zyv150, zyv150, zyv150, zyv150, zyv150], [zyv150, zyv150, zyv150, zyv150, zyv150, zyv150, zyv150, zyv150, zyv150, zyv150, zyv150, zyv150, zyv150, zyv150, zyv150, zyv150], [zyv150, zyv150, zyv150, zyv150, zyv150, zyv150, zyv150, zyv150, zyv150, zyv150, zyv150, zyv150, zyv150, zyv150, zyv150, zyv150], [zyv126, zyv126, zyv126, zyv126, zyv126, zyv126, zyv126, zyv126, zyv126, zyv126, zyv126, zyv126, zyv126, zyv126, zyv126, zyv126]])
noncomputable def zyc54 : zC := .inl (1, 16, [[], [zyv100]])
def zyv151 : zAV := .inl ((.negSucc 175, .ofNat 79), none)
noncomputable def zyc55 : zC := .inl (0, 24, [[zyv151, zyv151, zyv15, zyv15, zyv15, zyv15, zyv15, zyv15, zyv15, zyv15, zyv15, zyv15, zyv15, zyv15, zyv15, zyv15], [zyv15, zyv15, zyv15, zyv15, zyv15, zyv15, zyv15, zyv15, zyv126, zyv126, zyv126, zyv126, zyv126, zyv126, zyv126, zyv126]])
noncomputable def zyc56 : zC := .inl (3, 40, [[], [zyv150]])
noncomputable def zyc57 : zC := .inl (0, 7, [[], [zyv15]])
noncomputable def zyc58 : zC := .inl (0, 324, [[zyv149, zyv149, zyv149, zyv149, zyv149, zyv149, zyv149, zyv149, zyv15, zyv15, zyv15, zyv15, zyv15, zyv15, zyv15, zyv15], [zyv36, zyv36, zyv36, zyv36, zyv36, zyv36, zyv36, zyv36, zyv15, zyv15, zyv15, zyv149, zyv149, zyv149, zyv149, zyv149], [zyv149, zyv149, zyv149, zyv15, zyv15, zyv15, zyv15, zyv15, zyv15, zyv15, zyv15, zyv36, zyv36, zyv36, zyv36, zyv36], [zyv36, zyv36, zyv36, zyv15, zyv15, zyv15, zyv149, zyv149, zyv149, zyv149, zyv149, zyv149, zyv149, zyv149, zyv15, zyv15], [zyv15, zyv15, zyv15, zyv15, zyv15, zyv15, zyv36, zyv36, zyv36, zyv36, zyv36, zyv36, zyv36, zyv36, zyv15, zyv15], [zyv15, zyv149, zyv149, zyv149, zyv149, zyv149, zyv149, zyv149, zyv149, zyv15, zyv15, zyv15, zyv15, zyv15, zyv15, zyv15], [zyv15, zyv36, zyv36, zyv36, zyv36, zyv36, zyv36, zyv36, zyv36, zyv15, zyv15, zyv15, zyv149, zyv149, zyv149, zyv149], [zyv149, zyv149, zyv149, zyv149, zyv15, zyv15, zyv15, zyv15, zyv15, zyv15, zyv15, zyv15, zyv36, zyv36, zyv36, zyv36], [zyv36, zyv36, zyv36, zyv36, zyv15, zyv15, zyv15, zyv149, zyv149, zyv149, zyv149, zyv149, zyv149, zyv149, zyv149, zyv15], [zyv15, zyv15, zyv15, zyv15, zyv15, zyv15, zyv15, zyv36, zyv36, zyv36, zyv36, zyv36, zyv36, zyv36, zyv36, zyv15], [zyv15, zyv15, zyv149, zyv149, zyv149, zyv149, zyv149, zyv149, zyv149, zyv149, zyv15, zyv15, zyv15, zyv15, zyv15, zyv15], [zyv15, zyv15, zyv36, zyv36, zyv36, zyv36, zyv36, zyv36, zyv36, zyv36, zyv15, zyv15, zyv15, zyv149, zyv149, zyv149], [zyv149, zyv149, zyv149, zyv149, zyv149, zyv15, zyv15, zyv15, zyv15, zyv15, zyv15, zyv15, zyv15, zyv36, zyv36, zyv36], [zyv36, zyv36, zyv36, zyv36, zyv36, zyv15, zyv15, zyv15, zyv149, zyv149, zyv149, zyv149, zyv149, zyv149, zyv149, zyv149], [zyv15, zyv15, zyv15, zyv15, zyv15, zyv15, zyv15, zyv15, zyv36, zyv36, zyv36, zyv36, zyv36, zyv36, zyv36, zyv36], [zyv15, zyv15, zyv15, zyv149, zyv149, zyv149, zyv149, zyv149, zyv149, zyv149, zyv149, zyv15, zyv15, zyv15, zyv15, zyv15], [zyv15, zyv15, zyv15, zyv36, zyv36, zyv36, zyv36, zyv36, zyv36, zyv36, zyv36, zyv15, zyv15, zyv15, zyv149, zyv149], [zyv149, zyv149, zyv149, zyv149, zyv149, zyv149, zyv15, zyv15, zyv15, zyv15, zyv15, zyv15, zyv15, zyv15, zyv36, zyv36], [zyv36, zyv36, zyv36, zyv36, zyv36, zyv36, zyv15, zyv15, zyv15, zyv149, zyv149, zyv149, zyv149, zyv149, zyv149, zyv149], [zyv149, zyv15, zyv15, zyv15, zyv15, zyv15, zyv15, zyv15, zyv15, zyv36, zyv36, zyv36, zyv36, zyv36, zyv36, zyv36], [zyv36, zyv15, zyv15, zyv15, zyv126, zyv126, zyv126, zyv126, zyv126, zyv126, zyv126, zyv126, zyv126, zyv126, zyv126, zyv126]])
def zyv152 : zAV := .inl ((.negSucc 175, .ofNat 120), none)
noncomputable def zyc59 : zC := .inl (0, 240, [[], [zyv152]])
def zyv153 : zAV := .inl ((.ofNat 0, .ofNat 999), none)
noncomputable def zyc60 : zC := .inl (0, 64, [[], [zyv153]])
def zyv154 : zAV := .inl ((.negSucc 2147483647, .ofNat 1000000000), none)
noncomputable def zyc61 : zC := .inl (0, 2304, [[], [zyv154]])
noncomputable def zyc62 : zC := .inl (0, 8, [[zyv101, zyv101, zyv101, zyv101, zyv101, zyv101, zyv101, zyv101, zyv126, zyv126, zyv126, zyv126, zyv126, zyv126, zyv126, zyv126]])
noncomputable def zyc63 : zC := .inl (0, 54, [[zyv149, zyv149, zyv149, zyv149, zyv149, zyv149, zyv149, zyv149, zyv15, zyv15, zyv15, zyv15, zyv15, zyv15, zyv15, zyv15], [zyv36, zyv36, zyv36, zyv36, zyv36, zyv36, zyv36, zyv36, zyv15, zyv15, zyv15, zyv149, zyv149, zyv149, zyv149, zyv149], [zyv149, zyv149, zyv149, zyv15, zyv15, zyv15, zyv15, zyv15, zyv15, zyv15, zyv15, zyv36, zyv36, zyv36, zyv36, zyv36], [zyv36, zyv36, zyv36, zyv15, zyv15, zyv15, zyv126, zyv126, zyv126, zyv126, zyv126, zyv126, zyv126, zyv126, zyv126, zyv126]])
noncomputable def zyc64 : zC := .inl (0, 2, [[], [zyv15]])
def zyv155 : zAV := .inr (.inl (.ofNat 0, .ofNat 0))
noncomputable def zyc65 : zC := .inl (1, 1, [[], [zyv155]])
noncomputable def zyr0 : List zC := [zyc0, zyc1, zyc2, zyc3, zyc4, zyc5, zyc6, zyc7, zyc8, zyc8, zyc9, zyc10, zyc11, zyc10, zyc12, zyc13]
noncomputable def zyr1 : List zC := [zyc14, zyc15, zyc16, zyc14, zyc15, zyc17, zyc14, zyc15, zyc18, zyc19, zyc20, zyc14, zyc15, zyc21, zyc14, zyc15]
noncomputable def zyr2 : List zC := [zyc22, zyc14, zyc15, zyc23, zyc14, zyc15, zyc24, zyc14, zyc15, zyc25, zyc14, zyc15, zyc26, zyc14, zyc15, zyc27]
noncomputable def zyr3 : List zC := [zyc14, zyc15, zyc28, zyc14, zyc15, zyc29, zyc14, zyc15, zyc30, zyc14, zyc15, zyc31, zyc14, zyc15, zyc32, zyc33]
noncomputable def zyr4 : List zC := [zyc34, zyc4, zyc5, zyc35, zyc36, zyc37, zyc38, zyc39, zyc39, zyc40, zyc41, zyc42, zyc43, zyc41, zyc44, zyc45]
noncomputable def zyr5 : List zC := [zyc46, zyc46, zyc47, zyc48, zyc10, zyc11, zyc10, zyc12, zyc49, zyc14, zyc15, zyc50, zyc14, zyc15, zyc51, zyc52]
noncomputable def zyr6 : List zC := [zyc8, zyc8, zyc8, zyc53, zyc54, zyc55, zyc56, zyc56, zyc57, zyc58, zyc52, zyc52, zyc8, zyc8, zyc59, zyc4]
noncomputable def zyr7 : List zC := [zyc4, zyc4, zyc4, zyc60, zyc61, zyc40, zyc62, zyc43, zyc46, zyc46, zyc63, zyc33, zyc64, zyc65, zycF, zycF]
noncomputable def zyh0 : zH := (126, [zyr0, zyr1, zyr2, zyr3, zyr4, zyr5, zyr6, zyr7], 0)
def zyv156 : zAV := .inl ((.ofNat 4, .ofNat 80), none)
noncomputable def zyc66 : zC := .inr (6, [zyv16, zyv156])
noncomputable def zyr8 : List zC := [zyc0, zyc66, zyc2, zyc3, zyc4, zyc5, zyc6, zyc7, zyc8, zyc8, zyc9, zyc10, zyc11, zyc10, zyc12, zyc13]
def zym0 : Nat := 340282366920938463500268095579187314688
noncomputable def zyh1 : zH := (126, [zyr8, zyr1, zyr2, zyr3, zyr4, zyr5, zyr6, zyr7], zym0)
noncomputable def zyc67 : zC := .inr (8, [zyv114, zyv26, zyv27, zyv25, zyv115, zyv116, zyv117, zyv118, zyv156, zyv119, zyv25, zyv126, zyv120, zyv17, zyv121, zyv121, zyv122, zyv123, zyv124, zyv125, zyv35, zyv126, zyv127, zyv128, zyv13, zyv129, zyv130, zyv18, zyv18, zyv131, zyv132, zyv133, zyv134, zyv135, zyv136, zyv137, zyv138, zyv139, zyv140, zyv141, zyv142, zyv143, zyv144, zyv145, zyv15, zyv13, zyv15, zyv15, zyv146, zyv147, zyv148])
noncomputable def zyr9 : List zC := [zyc46, zyc46, zyc47, zyc48, zyc10, zyc11, zyc10, zyc12, zyc49, zyc14, zyc15, zyc50, zyc14, zyc15, zyc67, zyc52]
def zym1 : Nat := 211861736197293416848243766755922279101441967315979797700064010856915847158782645406332588525774124237135820798012051910727532997540494828604300780047940476602123645996595218861774093384396863703147768918203355330717014116930318297848336888874837480636125606187512271062508586912720901577979316142879303861588506228402273210052144362392101444730311664826487042625055425315855775437803683388209421953545967431247397650298504203842199334503767026151568364700554954868412666929582247712354746277677663897018317218323635774578981136412821281042415283538974301038812816794158472582225221306701682591830839533122463882759250580006982999268970647923559048187055237483962239364808337309676514413276316178297240059586590898678701745237116128386276225469865223990694135371121657472668483058665362900034001632927846723833759600502383365571330302433850067444217791323640141366933319227714651131203351970060595110748649958966672458247932404632126685509153377394021142343489280964113376421505993183283496504841876334245741378169169839875874374729099395842454727336282046894143293609413065306366060590303254767750579060245137033078360786605801177207175494939395201951731075444819767808802578062221646504239698751713792004120046801570853165032837952826436173743750186588774807573539270267446247296883157058109535400462980273077552933626728602084232022676380055516048682213196018800733222940153579998190632571545901450386400398842680768238809501617304954708215051373901125235818567487280395617707453276824078115279478268408412805257276733772921505764267500124585919465560222508802934931620963798015739842509620074308019472510881496131088974380724373149549640900669222245279053730935321226253253756971792296813915152455490699298004191617688850675303421496787425746290031047317873494712521535773727181352476031668646798987323266853321297436565092523568185282955288370917467903008829345300483277633801216089147310993292583239680
noncomputable def zyh2 : zH := (126, [zyr0, zyr1, zyr2, zyr3, zyr4, zyr9, zyr6, zyr7], zym1)
def zym2 : Nat := 36893488147419103232
noncomputable def zyh3 : zH := (126, [zyr0, zyr1, zyr2, zyr3, zyr4, zyr5, zyr6, zyr7], zym2)
noncomputable def zyc68 : zC := .inr (8, [zyv114, zyv26, zyv27, zyv25, zyv115, zyv116, zyv117, zyv118, zyv17, zyv119, zyv25, zyv126, zyv120, zyv17, zyv121, zyv121, zyv122, zyv123, zyv124, zyv125, zyv35, zyv126, zyv127, zyv128, zyv13, zyv129, zyv130, zyv18, zyv18, zyv131, zyv132, zyv133, zyv134, zyv135, zyv136, zyv137, zyv138, zyv139, zyv140, zyv141, zyv142, zyv143, zyv144, zyv145, zyv15, zyv13, zyv15, zyv15, zyv146, zyv147, zyv148])
noncomputable def zyr10 : List zC := [zyc46, zyc46, zyc47, zyc48, zyc10, zyc11, zyc10, zyc12, zyc49, zyc14, zyc15, zyc50, zyc14, zyc15, zyc68, zyc52]
def zym3 : Nat := 228526405820675667726886292365437767863219214723138622610410125128789718683692085267723334708545248180231850694411601357491772338708010292421524670566593329584141450248793888432239274948602139174113447185939519461726358723488663446946554691720017945388154306455455319205391522072852096145767017672377940765613744577986130121652438380794260187873675948721318502792895210447048791786175314192049907635455217960090883178647517902516097892670971487738613860638976120250897957787082388843057146813639387494787742561714044148382539564108053347207150960074187192240990935192930053950351749716333567333529239509249936141314463581223345255553594446060834685330060810391354313026726884691064383266613236234271631543086434212520759638765946199361448716496595599978426030527004097374425552994496124103729217938400183356511449524031411864579941466756040036670695643899664209972467863034142957585559417211204916862296710673630116752629142363310075437810399624331330477978620231168956046438165387376770571635270828184313144424879536183181791124807127572941362365819698275445120653790581567270334450294353263793514842664679099264609205733925272636626105332979080128870934313951686826401537812367083892011324590744993228386219018503707906929859795716443062555904936673973558531334686890179758220766449094114682764602634753737012803669137831436176571953465825133195560755979109552841629820587872933843278036861239197895065907672207124003345511177087173440615655385800208280889441757644420996060710102586264223190248969363746785863764406805065913984082261783895601493332375305177077479056309374885891488763371440979681748540590187720913866733809846809002745389646905737743975468303419817058245229457390528732771467269306619574707602475059409179677466651292515782724306159253110208238375777441368518671589862366411797001921563348434944
noncomputable def zyh4 : zH := (126, [zyr0, zyr1, zyr2, zyr3, zyr4, zyr10, zyr6, zyr7], zym3)
def zym4 : Nat := 39402006196394479214415027136064523887590553065872314978376303422675810018183012726987417195335564523283201415708672
noncomputable def zyh5 : zH := (126, [zyr0, zyr1, zyr2, zyr3, zyr4, zyr5, zyr6, zyr7], zym4)
noncomputable def zyc69 : zC := .inr (0, [zyv19, zyv20, zyv21, zyv22, zyv23, zyv24, zyv126, zyv26, zyv27, zyv28, zyv18, zyv18])
noncomputable def zyr11 : List zC := [zyc0, zyc1, zyc2, zyc69, zyc4, zyc5, zyc6, zyc7, zyc8, zyc8, zyc9, zyc10, zyc11, zyc10, zyc12, zyc13]
noncomputable def zyh6 : zH := (126, [zyr11, zyr1, zyr2, zyr3, zyr4, zyr5, zyr6, zyr7], zym4)
def zyv157 : zAV := .inl ((.ofNat 1, .ofNat 1), none)
noncomputable def zyc70 : zC := .inr (0, [zyv19, zyv20, zyv21, zyv22, zyv23, zyv24, zyv157, zyv26, zyv27, zyv28, zyv18, zyv18])
noncomputable def zyr12 : List zC := [zyc0, zyc1, zyc2, zyc70, zyc4, zyc5, zyc6, zyc7, zyc8, zyc8, zyc9, zyc10, zyc11, zyc10, zyc12, zyc13]
noncomputable def zyh7 : zH := (126, [zyr12, zyr1, zyr2, zyr3, zyr4, zyr5, zyr6, zyr7], zym4)
def zyv158 : zAV := .inl ((.ofNat 2, .ofNat 2), none)
noncomputable def zyc71 : zC := .inr (0, [zyv19, zyv20, zyv21, zyv22, zyv23, zyv24, zyv158, zyv26, zyv27, zyv28, zyv18, zyv18])
noncomputable def zyr13 : List zC := [zyc0, zyc1, zyc2, zyc71, zyc4, zyc5, zyc6, zyc7, zyc8, zyc8, zyc9, zyc10, zyc11, zyc10, zyc12, zyc13]
noncomputable def zyh8 : zH := (126, [zyr13, zyr1, zyr2, zyr3, zyr4, zyr5, zyr6, zyr7], zym4)
def zyv159 : zAV := .inl ((.ofNat 3, .ofNat 3), none)
noncomputable def zyc72 : zC := .inr (0, [zyv19, zyv20, zyv21, zyv22, zyv23, zyv24, zyv159, zyv26, zyv27, zyv28, zyv18, zyv18])
noncomputable def zyr14 : List zC := [zyc0, zyc1, zyc2, zyc72, zyc4, zyc5, zyc6, zyc7, zyc8, zyc8, zyc9, zyc10, zyc11, zyc10, zyc12, zyc13]
noncomputable def zyh9 : zH := (126, [zyr14, zyr1, zyr2, zyr3, zyr4, zyr5, zyr6, zyr7], zym4)
def zyv160 : zAV := .inl ((.ofNat 4, .ofNat 4), none)
noncomputable def zyc73 : zC := .inr (0, [zyv19, zyv20, zyv21, zyv22, zyv23, zyv24, zyv160, zyv26, zyv27, zyv28, zyv18, zyv18])
noncomputable def zyr15 : List zC := [zyc0, zyc1, zyc2, zyc73, zyc4, zyc5, zyc6, zyc7, zyc8, zyc8, zyc9, zyc10, zyc11, zyc10, zyc12, zyc13]
noncomputable def zyh10 : zH := (126, [zyr15, zyr1, zyr2, zyr3, zyr4, zyr5, zyr6, zyr7], zym4)
def zyv161 : zAV := .inl ((.ofNat 5, .ofNat 5), none)
noncomputable def zyc74 : zC := .inr (0, [zyv19, zyv20, zyv21, zyv22, zyv23, zyv24, zyv161, zyv26, zyv27, zyv28, zyv18, zyv18])
noncomputable def zyr16 : List zC := [zyc0, zyc1, zyc2, zyc74, zyc4, zyc5, zyc6, zyc7, zyc8, zyc8, zyc9, zyc10, zyc11, zyc10, zyc12, zyc13]
noncomputable def zyh11 : zH := (126, [zyr16, zyr1, zyr2, zyr3, zyr4, zyr5, zyr6, zyr7], zym4)
def zyv162 : zAV := .inl ((.ofNat 6, .ofNat 6), none)
noncomputable def zyc75 : zC := .inr (0, [zyv19, zyv20, zyv21, zyv22, zyv23, zyv24, zyv162, zyv26, zyv27, zyv28, zyv18, zyv18])
noncomputable def zyr17 : List zC := [zyc0, zyc1, zyc2, zyc75, zyc4, zyc5, zyc6, zyc7, zyc8, zyc8, zyc9, zyc10, zyc11, zyc10, zyc12, zyc13]
noncomputable def zyh12 : zH := (126, [zyr17, zyr1, zyr2, zyr3, zyr4, zyr5, zyr6, zyr7], zym4)
def zyv163 : zAV := .inl ((.ofNat 7, .ofNat 7), none)
noncomputable def zyc76 : zC := .inr (0, [zyv19, zyv20, zyv21, zyv22, zyv23, zyv24, zyv163, zyv26, zyv27, zyv28, zyv18, zyv18])
noncomputable def zyr18 : List zC := [zyc0, zyc1, zyc2, zyc76, zyc4, zyc5, zyc6, zyc7, zyc8, zyc8, zyc9, zyc10, zyc11, zyc10, zyc12, zyc13]
noncomputable def zyh13 : zH := (126, [zyr18, zyr1, zyr2, zyr3, zyr4, zyr5, zyr6, zyr7], zym4)
def zyv164 : zAV := .inl ((.ofNat 8, .ofNat 8), none)
noncomputable def zyc77 : zC := .inr (0, [zyv19, zyv20, zyv21, zyv22, zyv23, zyv24, zyv164, zyv26, zyv27, zyv28, zyv18, zyv18])
noncomputable def zyr19 : List zC := [zyc0, zyc1, zyc2, zyc77, zyc4, zyc5, zyc6, zyc7, zyc8, zyc8, zyc9, zyc10, zyc11, zyc10, zyc12, zyc13]
noncomputable def zyh14 : zH := (126, [zyr19, zyr1, zyr2, zyr3, zyr4, zyr5, zyr6, zyr7], zym4)
noncomputable def zyc78 : zC := .inr (6, [zyv16, zyv126])
noncomputable def zyc79 : zC := .inr (2, [zyv46, zyv47, zyv126])
noncomputable def zyr20 : List zC := [zyc0, zyc78, zyc2, zyc3, zyc4, zyc5, zyc6, zyc7, zyc8, zyc8, zyc9, zyc10, zyc11, zyc10, zyc12, zyc13]
noncomputable def zyr21 : List zC := [zyc14, zyc15, zyc16, zyc14, zyc15, zyc17, zyc14, zyc15, zyc79, zyc19, zyc20, zyc14, zyc15, zyc21, zyc14, zyc15]
noncomputable def zyh15 : zH := (126, [zyr20, zyr21, zyr2, zyr3, zyr4, zyr5, zyr6, zyr7], 0)
def zym5 : Nat := 56616434707392290493830608686343291913914207267329621488609504077443092998260469825507336856810827911261368707758178809587148432632037424161064675500873383487082580173608658838616501128049812714217651328283024830073412384889815432597905927601958951314543937080343085064110993312334723049547437731770779823050760639880425500165204989981997213399871161087661501312220225137504516172823917738211300299807381757818984800273856795211620996748504363142690436276062613301784444812913670500602718367796525145427307300283865951803998808065639029170703022449468190319930507340988677523066084721639425495152552125131611082991384744696522708197306203186569928692274528086558201803207638020888691121265434197293907218384095520560555896947150944133055863397615648411112470754656110748811237653374788477716072552588609616376430894096481364501294655654823142548823259752215716293351999419717562306177064929632050689015014405578694408614353540180649410108905523548191355424055272181142840177487296189764022300385934884483982341901658184426332624776972085905793515459600620068183625181327963636494799582466830531258661325767796742142353530480288174823736291072477683720590971289642787198230081364301868392910675871538608754231607296
noncomputable def zyh16 : zH := (126, [zyr20, zyr21, zyr2, zyr3, zyr4, zyr5, zyr6, zyr7], zym5)
def zym6 : Nat := 56616434707392290493830608686343291913914207267329621488609504077443092998260469825507336856810827911261368707758178809587148432632037424161064675500873383487082580173608658838616501128049812714217651328283024830073412384889815432597905927601958951314543937080343085064110993312334723049547437731770779823050760639880425500165204989981997213399871161087661501312220225137504516172823917738211300299807381757818984800273856795211620996748504363142690436276062613301784444812913670500602718367796525145427307300283865951803998808065639029170703022449468190319930507340988677523066084721639425495152552125131611082991384744696522708197306203186569928692274528086558201803207638020888691121265434197293907218384095520560555896947150944133055863397615648420753720462340241103131704077488044929364445544371365421815131050357510930868507458331163238978207458406010781416904018571167230221356898229510502640578113011399547766140854439263777721779631522255573527973606552411532223609105692627609570788783966744475244907270860894944226045903441799552970171330744101549659501618214331408711727628717864331581019079177597111481137079414010764073684136845037056764611372581036814603072148427132229107710943420383399144423686144
noncomputable def zyh17 : zH := (126, [zyr20, zyr1, zyr2, zyr3, zyr4, zyr5, zyr6, zyr7], zym6)
def zyv165 : zAV := .inl ((.ofNat 76, .ofNat 76), none)
def zyv166 : zAV := .inl ((.negSucc 0, .negSucc 0), none)
noncomputable def zyc80 : zC := .inr (8, [zyv114, zyv26, zyv27, zyv101, zyv115, zyv116, zyv117, zyv118, zyv126, zyv119, zyv25, zyv126, zyv118, zyv17, zyv165, zyv121, zyv166, zyv123, zyv124, zyv125, zyv35, zyv126, zyv127, zyv128, zyv13, zyv129, zyv130, zyv18, zyv18, zyv131, zyv132, zyv133, zyv134, zyv135, zyv136, zyv137, zyv138, zyv139, zyv140, zyv141, zyv142, zyv143, zyv144, zyv145, zyv15, zyv13, zyv15, zyv15, zyv146, zyv147, zyv148])
def zyv167 : zAV := .inl ((.negSucc 255, .ofNat 127), none)
noncomputable def zyc81 : zC := .inl (0, 240, [[], [zyv167]])
noncomputable def zyr22 : List zC := [zyc46, zyc46, zyc47, zyc48, zyc10, zyc11, zyc10, zyc12, zyc49, zyc14, zyc15, zyc50, zyc14, zyc15, zyc80, zyc52]
noncomputable def zyr23 : List zC := [zyc8, zyc8, zyc8, zyc53, zyc54, zyc55, zyc56, zyc56, zyc57, zyc58, zyc52, zyc52, zyc8, zyc8, zyc81, zyc4]
noncomputable def zyh18 : zH := (126, [zyr0, zyr1, zyr2, zyr3, zyr4, zyr22, zyr23, zyr7], 0)
def zyv168 : zAV := .inl ((.negSucc 0, .ofNat 76), none)
noncomputable def zyc82 : zC := .inr (8, [zyv114, zyv26, zyv27, zyv101, zyv115, zyv116, zyv117, zyv118, zyv126, zyv119, zyv25, zyv126, zyv118, zyv17, zyv165, zyv121, zyv168, zyv123, zyv124, zyv125, zyv35, zyv126, zyv127, zyv128, zyv13, zyv129, zyv130, zyv18, zyv18, zyv131, zyv132, zyv133, zyv134, zyv135, zyv136, zyv137, zyv138, zyv139, zyv140, zyv141, zyv142, zyv143, zyv144, zyv145, zyv15, zyv13, zyv15, zyv15, zyv146, zyv147, zyv148])
noncomputable def zyr24 : List zC := [zyc46, zyc46, zyc47, zyc48, zyc10, zyc11, zyc10, zyc12, zyc49, zyc14, zyc15, zyc50, zyc14, zyc15, zyc82, zyc52]
def zym7 : Nat := 72092813053194468481562864808930970859890993914449680381333788680510725692073600428210545231636348184082146148416194415852180595851544798112630572497848536176740303156094237873724402958086251604359481120855406147439572799927543054339164895693284416660845590312302228156608883487035185599025977054948080528156378385638635127552217807595236992439009448904591888726215790971446196530442669987511895754703809726296968229066254547822229782024685750673255311134801828398731135156763375150861208383982204905981337062617706915485335117050898879975831528850068552062448656008510566157099212069884572302188381466246728467469314994902764435696595249684072988249845983268329426546917306025233339652438638493428363892082251538361034904502494208092607315723526608476126602153258026210067832462405832870705745472634042177879205614996849142490691085377271656452708403442739751190822760755759622750574445370513270072796086937850113810934847399888379618930523206867772402719588651448159624080088438833266340843240003154049726295912385566226917938874950960481857253600447428324243247322116383973295362121592097846508572316131050132750015745679268545689714992480854397709536953076934765688322736048539997736272722434429242005742444075992092810406426407198471998261498646978554688836811005958279893174504196019032307586843861498471806819778587449824694276831486234577205242562944657697112415711006745394698107142964838373548176453844184754827662884821092751270667596749398984463876681495721134440685296805820302881592234806245640700872445895383404766476136730284877865746627058649712247861713683188085672987636172473492758821015218678017536316658554848437088956915828545491342855899629747531024534240250623301234725896312666921912852737941351319451271719126226730159673970233722537463095652627396891376459334163205766013093301959126274265049780782150437432149594070221244026916327099548489686899643556531846993925807346045839369923468514459203462614478820364318146560
noncomputable def zyh19 : zH := (126, [zyr0, zyr1, zyr2, zyr3, zyr4, zyr24, zyr23, zyr7], zym7)
def zyv169 : zAV := .inl ((.ofNat 0, .ofNat 75), none)
noncomputable def zyc83 : zC := .inr (8, [zyv114, zyv26, zyv27, zyv101, zyv115, zyv116, zyv117, zyv118, zyv126, zyv119, zyv25, zyv126, zyv118, zyv17, zyv165, zyv169, zyv169, zyv123, zyv124, zyv125, zyv35, zyv126, zyv127, zyv128, zyv13, zyv129, zyv130, zyv18, zyv18, zyv131, zyv132, zyv133, zyv134, zyv135, zyv136, zyv137, zyv138, zyv139, zyv140, zyv141, zyv142, zyv143, zyv144, zyv145, zyv15, zyv13, zyv15, zyv15, zyv146, zyv147, zyv148])
noncomputable def zyr25 : List zC := [zyc46, zyc46, zyc47, zyc48, zyc10, zyc11, zyc10, zyc12, zyc49, zyc14, zyc15, zyc50, zyc14, zyc15, zyc83, zyc52]
noncomputable def zyh20 : zH := (126, [zyr0, zyr1, zyr2, zyr3, zyr4, zyr25, zyr23, zyr7], zym7)
def zyv170 : zAV := .inl ((.ofNat 1, .ofNat 75), none)
noncomputable def zyc84 : zC := .inr (8, [zyv114, zyv26, zyv27, zyv101, zyv115, zyv116, zyv117, zyv118, zyv126, zyv119, zyv25, zyv126, zyv118, zyv17, zyv165, zyv170, zyv170, zyv123, zyv124, zyv125, zyv35, zyv126, zyv127, zyv128, zyv13, zyv129, zyv130, zyv18, zyv18, zyv131, zyv132, zyv133, zyv134, zyv135, zyv136, zyv137, zyv138, zyv139, zyv140, zyv141, zyv142, zyv143, zyv144, zyv145, zyv15, zyv13, zyv15, zyv15, zyv146, zyv147, zyv148])
noncomputable def zyr26 : List zC := [zyc46, zyc46, zyc47, zyc48, zyc10, zyc11, zyc10, zyc12, zyc49, zyc14, zyc15, zyc50, zyc14, zyc15, zyc84, zyc52]
noncomputable def zyh21 : zH := (126, [zyr0, zyr1, zyr2, zyr3, zyr4, zyr26, zyr23, zyr7], zym7)
def zyv171 : zAV := .inl ((.ofNat 2, .ofNat 75), none)
noncomputable def zyc85 : zC := .inr (8, [zyv114, zyv26, zyv27, zyv101, zyv115, zyv116, zyv117, zyv118, zyv126, zyv119, zyv25, zyv126, zyv118, zyv17, zyv165, zyv171, zyv171, zyv123, zyv124, zyv125, zyv35, zyv126, zyv127, zyv128, zyv13, zyv129, zyv130, zyv18, zyv18, zyv131, zyv132, zyv133, zyv134, zyv135, zyv136, zyv137, zyv138, zyv139, zyv140, zyv141, zyv142, zyv143, zyv144, zyv145, zyv15, zyv13, zyv15, zyv15, zyv146, zyv147, zyv148])
noncomputable def zyr27 : List zC := [zyc46, zyc46, zyc47, zyc48, zyc10, zyc11, zyc10, zyc12, zyc49, zyc14, zyc15, zyc50, zyc14, zyc15, zyc85, zyc52]
noncomputable def zyh22 : zH := (126, [zyr0, zyr1, zyr2, zyr3, zyr4, zyr27, zyr23, zyr7], zym7)
def zyv172 : zAV := .inl ((.ofNat 2, .ofNat 76), none)
noncomputable def zyc86 : zC := .inr (8, [zyv114, zyv26, zyv27, zyv101, zyv115, zyv116, zyv117, zyv118, zyv126, zyv119, zyv25, zyv126, zyv118, zyv17, zyv165, zyv172, zyv166, zyv123, zyv124, zyv125, zyv35, zyv126, zyv127, zyv128, zyv13, zyv129, zyv130, zyv18, zyv18, zyv131, zyv132, zyv133, zyv134, zyv135, zyv136, zyv137, zyv138, zyv139, zyv140, zyv141, zyv142, zyv143, zyv144, zyv145, zyv15, zyv13, zyv15, zyv15, zyv146, zyv147, zyv148])
noncomputable def zyr28 : List zC := [zyc46, zyc46, zyc47, zyc48, zyc10, zyc11, zyc10, zyc12, zyc49, zyc14, zyc15, zyc50, zyc14, zyc15, zyc86, zyc52]
noncomputable def zyh23 : zH := (126, [zyr0, zyr1, zyr2, zyr3, zyr4, zyr28, zyr23, zyr7], zym7)
def zyv173 : zAV := .inl ((.ofNat 3, .ofNat 75), none)
noncomputable def zyc87 : zC := .inr (8, [zyv114, zyv26, zyv27, zyv101, zyv115, zyv116, zyv117, zyv118, zyv126, zyv119, zyv25, zyv126, zyv118, zyv17, zyv165, zyv173, zyv173, zyv123, zyv124, zyv125, zyv35, zyv126, zyv127, zyv128, zyv13, zyv129, zyv130, zyv18, zyv18, zyv131, zyv132, zyv133, zyv134, zyv135, zyv136, zyv137, zyv138, zyv139, zyv140, zyv141, zyv142, zyv143, zyv144, zyv145, zyv15, zyv13, zyv15, zyv15, zyv146, zyv147, zyv148])
noncomputable def zyr29 : List zC := [zyc46, zyc46, zyc47, zyc48, zyc10, zyc11, zyc10, zyc12, zyc49, zyc14, zyc15, zyc50, zyc14, zyc15, zyc87, zyc52]
noncomputable def zyh24 : zH := (126, [zyr0, zyr1, zyr2, zyr3, zyr4, zyr29, zyr23, zyr7], zym7)
def zyv174 : zAV := .inl ((.ofNat 3, .ofNat 76), none)
noncomputable def zyc88 : zC := .inr (8, [zyv114, zyv26, zyv27, zyv101, zyv115, zyv116, zyv117, zyv118, zyv126, zyv119, zyv25, zyv126, zyv118, zyv17, zyv165, zyv174, zyv166, zyv123, zyv124, zyv125, zyv35, zyv126, zyv127, zyv128, zyv13, zyv129, zyv130, zyv18, zyv18, zyv131, zyv132, zyv133, zyv134, zyv135, zyv136, zyv137, zyv138, zyv139, zyv140, zyv141, zyv142, zyv143, zyv144, zyv145, zyv15, zyv13, zyv15, zyv15, zyv146, zyv147, zyv148])
noncomputable def zyr30 : List zC := [zyc46, zyc46, zyc47, zyc48, zyc10, zyc11, zyc10, zyc12, zyc49, zyc14, zyc15, zyc50, zyc14, zyc15, zyc88, zyc52]
noncomputable def zyh25 : zH := (126, [zyr0, zyr1, zyr2, zyr3, zyr4, zyr30, zyr23, zyr7], zym7)
def zyv175 : zAV := .inl ((.ofNat 4, .ofNat 75), none)
noncomputable def zyc89 : zC := .inr (8, [zyv114, zyv26, zyv27, zyv101, zyv115, zyv116, zyv117, zyv118, zyv126, zyv119, zyv25, zyv126, zyv118, zyv17, zyv165, zyv175, zyv175, zyv123, zyv124, zyv125, zyv35, zyv126, zyv127, zyv128, zyv13, zyv129, zyv130, zyv18, zyv18, zyv131, zyv132, zyv133, zyv134, zyv135, zyv136, zyv137, zyv138, zyv139, zyv140, zyv141, zyv142, zyv143, zyv144, zyv145, zyv15, zyv13, zyv15, zyv15, zyv146, zyv147, zyv148])
noncomputable def zyr31 : List zC := [zyc46, zyc46, zyc47, zyc48, zyc10, zyc11, zyc10, zyc12, zyc49, zyc14, zyc15, zyc50, zyc14, zyc15, zyc89, zyc52]
noncomputable def zyh26 : zH := (126, [zyr0, zyr1, zyr2, zyr3, zyr4, zyr31, zyr23, zyr7], zym7)
def zyv176 : zAV := .inl ((.ofNat 4, .ofNat 76), none)
noncomputable def zyc90 : zC := .inr (8, [zyv114, zyv26, zyv27, zyv101, zyv115, zyv116, zyv117, zyv118, zyv126, zyv119, zyv25, zyv126, zyv118, zyv17, zyv165, zyv176, zyv166, zyv123, zyv124, zyv125, zyv35, zyv126, zyv127, zyv128, zyv13, zyv129, zyv130, zyv18, zyv18, zyv131, zyv132, zyv133, zyv134, zyv135, zyv136, zyv137, zyv138, zyv139, zyv140, zyv141, zyv142, zyv143, zyv144, zyv145, zyv15, zyv13, zyv15, zyv15, zyv146, zyv147, zyv148])
noncomputable def zyr32 : List zC := [zyc46, zyc46, zyc47, zyc48, zyc10, zyc11, zyc10, zyc12, zyc49, zyc14, zyc15, zyc50, zyc14, zyc15, zyc90, zyc52]
noncomputable def zyh27 : zH := (126, [zyr0, zyr1, zyr2, zyr3, zyr4, zyr32, zyr23, zyr7], zym7)
def zyv177 : zAV := .inl ((.ofNat 5, .ofNat 75), none)
noncomputable def zyc91 : zC := .inr (8, [zyv114, zyv26, zyv27, zyv101, zyv115, zyv116, zyv117, zyv118, zyv126, zyv119, zyv25, zyv126, zyv118, zyv17, zyv165, zyv177, zyv177, zyv123, zyv124, zyv125, zyv35, zyv126, zyv127, zyv128, zyv13, zyv129, zyv130, zyv18, zyv18, zyv131, zyv132, zyv133, zyv134, zyv135, zyv136, zyv137, zyv138, zyv139, zyv140, zyv141, zyv142, zyv143, zyv144, zyv145, zyv15, zyv13, zyv15, zyv15, zyv146, zyv147, zyv148])
noncomputable def zyr33 : List zC := [zyc46, zyc46, zyc47, zyc48, zyc10, zyc11, zyc10, zyc12, zyc49, zyc14, zyc15, zyc50, zyc14, zyc15, zyc91, zyc52]
noncomputable def zyh28 : zH := (126, [zyr0, zyr1, zyr2, zyr3, zyr4, zyr33, zyr23, zyr7], zym7)
def zyv178 : zAV := .inl ((.ofNat 5, .ofNat 76), none)
noncomputable def zyc92 : zC := .inr (8, [zyv114, zyv26, zyv27, zyv101, zyv115, zyv116, zyv117, zyv118, zyv126, zyv119, zyv25, zyv126, zyv118, zyv17, zyv165, zyv178, zyv166, zyv123, zyv124, zyv125, zyv35, zyv126, zyv127, zyv128, zyv13, zyv129, zyv130, zyv18, zyv18, zyv131, zyv132, zyv133, zyv134, zyv135, zyv136, zyv137, zyv138, zyv139, zyv140, zyv141, zyv142, zyv143, zyv144, zyv145, zyv15, zyv13, zyv15, zyv15, zyv146, zyv147, zyv148])
noncomputable def zyr34 : List zC := [zyc46, zyc46, zyc47, zyc48, zyc10, zyc11, zyc10, zyc12, zyc49, zyc14, zyc15, zyc50, zyc14, zyc15, zyc92, zyc52]
noncomputable def zyh29 : zH := (126, [zyr0, zyr1, zyr2, zyr3, zyr4, zyr34, zyr23, zyr7], zym7)
def zyv179 : zAV := .inl ((.ofNat 6, .ofNat 75), none)
noncomputable def zyc93 : zC := .inr (8, [zyv114, zyv26, zyv27, zyv101, zyv115, zyv116, zyv117, zyv118, zyv126, zyv119, zyv25, zyv126, zyv118, zyv17, zyv165, zyv179, zyv179, zyv123, zyv124, zyv125, zyv35, zyv126, zyv127, zyv128, zyv13, zyv129, zyv130, zyv18, zyv18, zyv131, zyv132, zyv133, zyv134, zyv135, zyv136, zyv137, zyv138, zyv139, zyv140, zyv141, zyv142, zyv143, zyv144, zyv145, zyv15, zyv13, zyv15, zyv15, zyv146, zyv147, zyv148])
noncomputable def zyr35 : List zC := [zyc46, zyc46, zyc47, zyc48, zyc10, zyc11, zyc10, zyc12, zyc49, zyc14, zyc15, zyc50, zyc14, zyc15, zyc93, zyc52]
noncomputable def zyh30 : zH := (126, [zyr0, zyr1, zyr2, zyr3, zyr4, zyr35, zyr23, zyr7], zym7)
def zyv180 : zAV := .inl ((.ofNat 6, .ofNat 76), none)
noncomputable def zyc94 : zC := .inr (8, [zyv114, zyv26, zyv27, zyv101, zyv115, zyv116, zyv117, zyv118, zyv126, zyv119, zyv25, zyv126, zyv118, zyv17, zyv165, zyv180, zyv166, zyv123, zyv124, zyv125, zyv35, zyv126, zyv127, zyv128, zyv13, zyv129, zyv130, zyv18, zyv18, zyv131, zyv132, zyv133, zyv134, zyv135, zyv136, zyv137, zyv138, zyv139, zyv140, zyv141, zyv142, zyv143, zyv144, zyv145, zyv15, zyv13, zyv15, zyv15, zyv146, zyv147, zyv148])
noncomputable def zyr36 : List zC := [zyc46, zyc46, zyc47, zyc48, zyc10, zyc11, zyc10, zyc12, zyc49, zyc14, zyc15, zyc50, zyc14, zyc15, zyc94, zyc52]
noncomputable def zyh31 : zH := (126, [zyr0, zyr1, zyr2, zyr3, zyr4, zyr36, zyr23, zyr7], zym7)
def zyv181 : zAV := .inl ((.ofNat 7, .ofNat 75), none)
noncomputable def zyc95 : zC := .inr (8, [zyv114, zyv26, zyv27, zyv101, zyv115, zyv116, zyv117, zyv118, zyv126, zyv119, zyv25, zyv126, zyv118, zyv17, zyv165, zyv181, zyv181, zyv123, zyv124, zyv125, zyv35, zyv126, zyv127, zyv128, zyv13, zyv129, zyv130, zyv18, zyv18, zyv131, zyv132, zyv133, zyv134, zyv135, zyv136, zyv137, zyv138, zyv139, zyv140, zyv141, zyv142, zyv143, zyv144, zyv145, zyv15, zyv13, zyv15, zyv15, zyv146, zyv147, zyv148])
noncomputable def zyr37 : List zC := [zyc46, zyc46, zyc47, zyc48, zyc10, zyc11, zyc10, zyc12, zyc49, zyc14, zyc15, zyc50, zyc14, zyc15, zyc95, zyc52]
noncomputable def zyh32 : zH := (126, [zyr0, zyr1, zyr2, zyr3, zyr4, zyr37, zyr23, zyr7], zym7)
def zyv182 : zAV := .inl ((.ofNat 7, .ofNat 76), none)
noncomputable def zyc96 : zC := .inr (8, [zyv114, zyv26, zyv27, zyv101, zyv115, zyv116, zyv117, zyv118, zyv126, zyv119, zyv25, zyv126, zyv118, zyv17, zyv165, zyv182, zyv166, zyv123, zyv124, zyv125, zyv35, zyv126, zyv127, zyv128, zyv13, zyv129, zyv130, zyv18, zyv18, zyv131, zyv132, zyv133, zyv134, zyv135, zyv136, zyv137, zyv138, zyv139, zyv140, zyv141, zyv142, zyv143, zyv144, zyv145, zyv15, zyv13, zyv15, zyv15, zyv146, zyv147, zyv148])
noncomputable def zyr38 : List zC := [zyc46, zyc46, zyc47, zyc48, zyc10, zyc11, zyc10, zyc12, zyc49, zyc14, zyc15, zyc50, zyc14, zyc15, zyc96, zyc52]
noncomputable def zyh33 : zH := (126, [zyr0, zyr1, zyr2, zyr3, zyr4, zyr38, zyr23, zyr7], zym7)
def zyv183 : zAV := .inl ((.ofNat 8, .ofNat 75), none)
noncomputable def zyc97 : zC := .inr (8, [zyv114, zyv26, zyv27, zyv101, zyv115, zyv116, zyv117, zyv118, zyv126, zyv119, zyv25, zyv126, zyv118, zyv17, zyv165, zyv183, zyv183, zyv123, zyv124, zyv125, zyv35, zyv126, zyv127, zyv128, zyv13, zyv129, zyv130, zyv18, zyv18, zyv131, zyv132, zyv133, zyv134, zyv135, zyv136, zyv137, zyv138, zyv139, zyv140, zyv141, zyv142, zyv143, zyv144, zyv145, zyv15, zyv13, zyv15, zyv15, zyv146, zyv147, zyv148])
noncomputable def zyr39 : List zC := [zyc46, zyc46, zyc47, zyc48, zyc10, zyc11, zyc10, zyc12, zyc49, zyc14, zyc15, zyc50, zyc14, zyc15, zyc97, zyc52]
noncomputable def zyh34 : zH := (126, [zyr0, zyr1, zyr2, zyr3, zyr4, zyr39, zyr23, zyr7], zym7)
def zyv184 : zAV := .inl ((.ofNat 8, .ofNat 76), none)
noncomputable def zyc98 : zC := .inr (8, [zyv114, zyv26, zyv27, zyv101, zyv115, zyv116, zyv117, zyv118, zyv126, zyv119, zyv25, zyv126, zyv118, zyv17, zyv165, zyv184, zyv166, zyv123, zyv124, zyv125, zyv35, zyv126, zyv127, zyv128, zyv13, zyv129, zyv130, zyv18, zyv18, zyv131, zyv132, zyv133, zyv134, zyv135, zyv136, zyv137, zyv138, zyv139, zyv140, zyv141, zyv142, zyv143, zyv144, zyv145, zyv15, zyv13, zyv15, zyv15, zyv146, zyv147, zyv148])
noncomputable def zyr40 : List zC := [zyc46, zyc46, zyc47, zyc48, zyc10, zyc11, zyc10, zyc12, zyc49, zyc14, zyc15, zyc50, zyc14, zyc15, zyc98, zyc52]
noncomputable def zyh35 : zH := (126, [zyr0, zyr1, zyr2, zyr3, zyr4, zyr40, zyr23, zyr7], zym7)
def zyv185 : zAV := .inl ((.ofNat 9, .ofNat 75), none)
noncomputable def zyc99 : zC := .inr (8, [zyv114, zyv26, zyv27, zyv101, zyv115, zyv116, zyv117, zyv118, zyv126, zyv119, zyv25, zyv126, zyv118, zyv17, zyv165, zyv185, zyv185, zyv123, zyv124, zyv125, zyv35, zyv126, zyv127, zyv128, zyv13, zyv129, zyv130, zyv18, zyv18, zyv131, zyv132, zyv133, zyv134, zyv135, zyv136, zyv137, zyv138, zyv139, zyv140, zyv141, zyv142, zyv143, zyv144, zyv145, zyv15, zyv13, zyv15, zyv15, zyv146, zyv147, zyv148])
noncomputable def zyr41 : List zC := [zyc46, zyc46, zyc47, zyc48, zyc10, zyc11, zyc10, zyc12, zyc49, zyc14, zyc15, zyc50, zyc14, zyc15, zyc99, zyc52]
noncomputable def zyh36 : zH := (126, [zyr0, zyr1, zyr2, zyr3, zyr4, zyr41, zyr23, zyr7], zym7)
def zyv186 : zAV := .inl ((.ofNat 9, .ofNat 76), none)
noncomputable def zyc100 : zC := .inr (8, [zyv114, zyv26, zyv27, zyv101, zyv115, zyv116, zyv117, zyv118, zyv126, zyv119, zyv25, zyv126, zyv118, zyv17, zyv165, zyv186, zyv166, zyv123, zyv124, zyv125, zyv35, zyv126, zyv127, zyv128, zyv13, zyv129, zyv130, zyv18, zyv18, zyv131, zyv132, zyv133, zyv134, zyv135, zyv136, zyv137, zyv138, zyv139, zyv140, zyv141, zyv142, zyv143, zyv144, zyv145, zyv15, zyv13, zyv15, zyv15, zyv146, zyv147, zyv148])
noncomputable def zyr42 : List zC := [zyc46, zyc46, zyc47, zyc48, zyc10, zyc11, zyc10, zyc12, zyc49, zyc14, zyc15, zyc50, zyc14, zyc15, zyc100, zyc52]
noncomputable def zyh37 : zH := (126, [zyr0, zyr1, zyr2, zyr3, zyr4, zyr42, zyr23, zyr7], zym7)
def zyv187 : zAV := .inl ((.ofNat 10, .ofNat 75), none)
noncomputable def zyc101 : zC := .inr (8, [zyv114, zyv26, zyv27, zyv101, zyv115, zyv116, zyv117, zyv118, zyv126, zyv119, zyv25, zyv126, zyv118, zyv17, zyv165, zyv187, zyv187, zyv123, zyv124, zyv125, zyv35, zyv126, zyv127, zyv128, zyv13, zyv129, zyv130, zyv18, zyv18, zyv131, zyv132, zyv133, zyv134, zyv135, zyv136, zyv137, zyv138, zyv139, zyv140, zyv141, zyv142, zyv143, zyv144, zyv145, zyv15, zyv13, zyv15, zyv15, zyv146, zyv147, zyv148])
noncomputable def zyr43 : List zC := [zyc46, zyc46, zyc47, zyc48, zyc10, zyc11, zyc10, zyc12, zyc49, zyc14, zyc15, zyc50, zyc14, zyc15, zyc101, zyc52]
noncomputable def zyh38 : zH := (126, [zyr0, zyr1, zyr2, zyr3, zyr4, zyr43, zyr23, zyr7], zym7)
def zyv188 : zAV := .inl ((.ofNat 10, .ofNat 76), none)
noncomputable def zyc102 : zC := .inr (8, [zyv114, zyv26, zyv27, zyv101, zyv115, zyv116, zyv117, zyv118, zyv126, zyv119, zyv25, zyv126, zyv118, zyv17, zyv165, zyv188, zyv166, zyv123, zyv124, zyv125, zyv35, zyv126, zyv127, zyv128, zyv13, zyv129, zyv130, zyv18, zyv18, zyv131, zyv132, zyv133, zyv134, zyv135, zyv136, zyv137, zyv138, zyv139, zyv140, zyv141, zyv142, zyv143, zyv144, zyv145, zyv15, zyv13, zyv15, zyv15, zyv146, zyv147, zyv148])
noncomputable def zyr44 : List zC := [zyc46, zyc46, zyc47, zyc48, zyc10, zyc11, zyc10, zyc12, zyc49, zyc14, zyc15, zyc50, zyc14, zyc15, zyc102, zyc52]
noncomputable def zyh39 : zH := (126, [zyr0, zyr1, zyr2, zyr3, zyr4, zyr44, zyr23, zyr7], zym7)
def zyv189 : zAV := .inl ((.ofNat 11, .ofNat 75), none)
noncomputable def zyc103 : zC := .inr (8, [zyv114, zyv26, zyv27, zyv101, zyv115, zyv116, zyv117, zyv118, zyv126, zyv119, zyv25, zyv126, zyv118, zyv17, zyv165, zyv189, zyv189, zyv123, zyv124, zyv125, zyv35, zyv126, zyv127, zyv128, zyv13, zyv129, zyv130, zyv18, zyv18, zyv131, zyv132, zyv133, zyv134, zyv135, zyv136, zyv137, zyv138, zyv139, zyv140, zyv141, zyv142, zyv143, zyv144, zyv145, zyv15, zyv13, zyv15, zyv15, zyv146, zyv147, zyv148])
noncomputable def zyr45 : List zC := [zyc46, zyc46, zyc47, zyc48, zyc10, zyc11, zyc10, zyc12, zyc49, zyc14, zyc15, zyc50, zyc14, zyc15, zyc103, zyc52]
noncomputable def zyh40 : zH := (126, [zyr0, zyr1, zyr2, zyr3, zyr4, zyr45, zyr23, zyr7], zym7)
def zyv190 : zAV := .inl ((.ofNat 11, .ofNat 76), none)
noncomputable def zyc104 : zC := .inr (8, [zyv114, zyv26, zyv27, zyv101, zyv115, zyv116, zyv117, zyv118, zyv126, zyv119, zyv25, zyv126, zyv118, zyv17, zyv165, zyv190, zyv166, zyv123, zyv124, zyv125, zyv35, zyv126, zyv127, zyv128, zyv13, zyv129, zyv130, zyv18, zyv18, zyv131, zyv132, zyv133, zyv134, zyv135, zyv136, zyv137, zyv138, zyv139, zyv140, zyv141, zyv142, zyv143, zyv144, zyv145, zyv15, zyv13, zyv15, zyv15, zyv146, zyv147, zyv148])
noncomputable def zyr46 : List zC := [zyc46, zyc46, zyc47, zyc48, zyc10, zyc11, zyc10, zyc12, zyc49, zyc14, zyc15, zyc50, zyc14, zyc15, zyc104, zyc52]
noncomputable def zyh41 : zH := (126, [zyr0, zyr1, zyr2, zyr3, zyr4, zyr46, zyr23, zyr7], zym7)
def zyv191 : zAV := .inl ((.ofNat 12, .ofNat 75), none)
noncomputable def zyc105 : zC := .inr (8, [zyv114, zyv26, zyv27, zyv101, zyv115, zyv116, zyv117, zyv118, zyv126, zyv119, zyv25, zyv126, zyv118, zyv17, zyv165, zyv191, zyv191, zyv123, zyv124, zyv125, zyv35, zyv126, zyv127, zyv128, zyv13, zyv129, zyv130, zyv18, zyv18, zyv131, zyv132, zyv133, zyv134, zyv135, zyv136, zyv137, zyv138, zyv139, zyv140, zyv141, zyv142, zyv143, zyv144, zyv145, zyv15, zyv13, zyv15, zyv15, zyv146, zyv147, zyv148])
noncomputable def zyr47 : List zC := [zyc46, zyc46, zyc47, zyc48, zyc10, zyc11, zyc10, zyc12, zyc49, zyc14, zyc15, zyc50, zyc14, zyc15, zyc105, zyc52]
noncomputable def zyh42 : zH := (126, [zyr0, zyr1, zyr2, zyr3, zyr4, zyr47, zyr23, zyr7], zym7)
def zyv192 : zAV := .inl ((.ofNat 12, .ofNat 76), none)
noncomputable def zyc106 : zC := .inr (8, [zyv114, zyv26, zyv27, zyv101, zyv115, zyv116, zyv117, zyv118, zyv126, zyv119, zyv25, zyv126, zyv118, zyv17, zyv165, zyv192, zyv166, zyv123, zyv124, zyv125, zyv35, zyv126, zyv127, zyv128, zyv13, zyv129, zyv130, zyv18, zyv18, zyv131, zyv132, zyv133, zyv134, zyv135, zyv136, zyv137, zyv138, zyv139, zyv140, zyv141, zyv142, zyv143, zyv144, zyv145, zyv15, zyv13, zyv15, zyv15, zyv146, zyv147, zyv148])
noncomputable def zyr48 : List zC := [zyc46, zyc46, zyc47, zyc48, zyc10, zyc11, zyc10, zyc12, zyc49, zyc14, zyc15, zyc50, zyc14, zyc15, zyc106, zyc52]
noncomputable def zyh43 : zH := (126, [zyr0, zyr1, zyr2, zyr3, zyr4, zyr48, zyr23, zyr7], zym7)
def zyv193 : zAV := .inl ((.ofNat 13, .ofNat 75), none)
noncomputable def zyc107 : zC := .inr (8, [zyv114, zyv26, zyv27, zyv101, zyv115, zyv116, zyv117, zyv118, zyv126, zyv119, zyv25, zyv126, zyv118, zyv17, zyv165, zyv193, zyv193, zyv123, zyv124, zyv125, zyv35, zyv126, zyv127, zyv128, zyv13, zyv129, zyv130, zyv18, zyv18, zyv131, zyv132, zyv133, zyv134, zyv135, zyv136, zyv137, zyv138, zyv139, zyv140, zyv141, zyv142, zyv143, zyv144, zyv145, zyv15, zyv13, zyv15, zyv15, zyv146, zyv147, zyv148])
noncomputable def zyr49 : List zC := [zyc46, zyc46, zyc47, zyc48, zyc10, zyc11, zyc10, zyc12, zyc49, zyc14, zyc15, zyc50, zyc14, zyc15, zyc107, zyc52]
noncomputable def zyh44 : zH := (126, [zyr0, zyr1, zyr2, zyr3, zyr4, zyr49, zyr23, zyr7], zym7)
def zyv194 : zAV := .inl ((.ofNat 13, .ofNat 76), none)
noncomputable def zyc108 : zC := .inr (8, [zyv114, zyv26, zyv27, zyv101, zyv115, zyv116, zyv117, zyv118, zyv126, zyv119, zyv25, zyv126, zyv118, zyv17, zyv165, zyv194, zyv166, zyv123, zyv124, zyv125, zyv35, zyv126, zyv127, zyv128, zyv13, zyv129, zyv130, zyv18, zyv18, zyv131, zyv132, zyv133, zyv134, zyv135, zyv136, zyv137, zyv138, zyv139, zyv140, zyv141, zyv142, zyv143, zyv144, zyv145, zyv15, zyv13, zyv15, zyv15, zyv146, zyv147, zyv148])
noncomputable def zyr50 : List zC := [zyc46, zyc46, zyc47, zyc48, zyc10, zyc11, zyc10, zyc12, zyc49, zyc14, zyc15, zyc50, zyc14, zyc15, zyc108, zyc52]
noncomputable def zyh45 : zH := (126, [zyr0, zyr1, zyr2, zyr3, zyr4, zyr50, zyr23, zyr7], zym7)
def zyv195 : zAV := .inl ((.ofNat 14, .ofNat 75), none)
noncomputable def zyc109 : zC := .inr (8, [zyv114, zyv26, zyv27, zyv101, zyv115, zyv116, zyv117, zyv118, zyv126, zyv119, zyv25, zyv126, zyv118, zyv17, zyv165, zyv195, zyv195, zyv123, zyv124, zyv125, zyv35, zyv126, zyv127, zyv128, zyv13, zyv129, zyv130, zyv18, zyv18, zyv131, zyv132, zyv133, zyv134, zyv135, zyv136, zyv137, zyv138, zyv139, zyv140, zyv141, zyv142, zyv143, zyv144, zyv145, zyv15, zyv13, zyv15, zyv15, zyv146, zyv147, zyv148])
noncomputable def zyr51 : List zC := [zyc46, zyc46, zyc47, zyc48, zyc10, zyc11, zyc10, zyc12, zyc49, zyc14, zyc15, zyc50, zyc14, zyc15, zyc109, zyc52]
noncomputable def zyh46 : zH := (126, [zyr0, zyr1, zyr2, zyr3, zyr4, zyr51, zyr23, zyr7], zym7)
def zyv196 : zAV := .inl ((.ofNat 14, .ofNat 76), none)
noncomputable def zyc110 : zC := .inr (8, [zyv114, zyv26, zyv27, zyv101, zyv115, zyv116, zyv117, zyv118, zyv126, zyv119, zyv25, zyv126, zyv118, zyv17, zyv165, zyv196, zyv166, zyv123, zyv124, zyv125, zyv35, zyv126, zyv127, zyv128, zyv13, zyv129, zyv130, zyv18, zyv18, zyv131, zyv132, zyv133, zyv134, zyv135, zyv136, zyv137, zyv138, zyv139, zyv140, zyv141, zyv142, zyv143, zyv144, zyv145, zyv15, zyv13, zyv15, zyv15, zyv146, zyv147, zyv148])
noncomputable def zyr52 : List zC := [zyc46, zyc46, zyc47, zyc48, zyc10, zyc11, zyc10, zyc12, zyc49, zyc14, zyc15, zyc50, zyc14, zyc15, zyc110, zyc52]
noncomputable def zyh47 : zH := (126, [zyr0, zyr1, zyr2, zyr3, zyr4, zyr52, zyr23, zyr7], zym7)
def zyv197 : zAV := .inl ((.ofNat 15, .ofNat 75), none)
noncomputable def zyc111 : zC := .inr (8, [zyv114, zyv26, zyv27, zyv101, zyv115, zyv116, zyv117, zyv118, zyv126, zyv119, zyv25, zyv126, zyv118, zyv17, zyv165, zyv197, zyv197, zyv123, zyv124, zyv125, zyv35, zyv126, zyv127, zyv128, zyv13, zyv129, zyv130, zyv18, zyv18, zyv131, zyv132, zyv133, zyv134, zyv135, zyv136, zyv137, zyv138, zyv139, zyv140, zyv141, zyv142, zyv143, zyv144, zyv145, zyv15, zyv13, zyv15, zyv15, zyv146, zyv147, zyv148])
noncomputable def zyr53 : List zC := [zyc46, zyc46, zyc47, zyc48, zyc10, zyc11, zyc10, zyc12, zyc49, zyc14, zyc15, zyc50, zyc14, zyc15, zyc111, zyc52]
noncomputable def zyh48 : zH := (126, [zyr0, zyr1, zyr2, zyr3, zyr4, zyr53, zyr23, zyr7], zym7)
def zyv198 : zAV := .inl ((.ofNat 15, .ofNat 76), none)
noncomputable def zyc112 : zC := .inr (8, [zyv114, zyv26, zyv27, zyv101, zyv115, zyv116, zyv117, zyv118, zyv126, zyv119, zyv25, zyv126, zyv118, zyv17, zyv165, zyv198, zyv166, zyv123, zyv124, zyv125, zyv35, zyv126, zyv127, zyv128, zyv13, zyv129, zyv130, zyv18, zyv18, zyv131, zyv132, zyv133, zyv134, zyv135, zyv136, zyv137, zyv138, zyv139, zyv140, zyv141, zyv142, zyv143, zyv144, zyv145, zyv15, zyv13, zyv15, zyv15, zyv146, zyv147, zyv148])
noncomputable def zyr54 : List zC := [zyc46, zyc46, zyc47, zyc48, zyc10, zyc11, zyc10, zyc12, zyc49, zyc14, zyc15, zyc50, zyc14, zyc15, zyc112, zyc52]
noncomputable def zyh49 : zH := (126, [zyr0, zyr1, zyr2, zyr3, zyr4, zyr54, zyr23, zyr7], zym7)
def zyv199 : zAV := .inl ((.ofNat 16, .ofNat 75), none)
noncomputable def zyc113 : zC := .inr (8, [zyv114, zyv26, zyv27, zyv101, zyv115, zyv116, zyv117, zyv118, zyv126, zyv119, zyv25, zyv126, zyv118, zyv17, zyv165, zyv199, zyv199, zyv123, zyv124, zyv125, zyv35, zyv126, zyv127, zyv128, zyv13, zyv129, zyv130, zyv18, zyv18, zyv131, zyv132, zyv133, zyv134, zyv135, zyv136, zyv137, zyv138, zyv139, zyv140, zyv141, zyv142, zyv143, zyv144, zyv145, zyv15, zyv13, zyv15, zyv15, zyv146, zyv147, zyv148])
noncomputable def zyr55 : List zC := [zyc46, zyc46, zyc47, zyc48, zyc10, zyc11, zyc10, zyc12, zyc49, zyc14, zyc15, zyc50, zyc14, zyc15, zyc113, zyc52]
noncomputable def zyh50 : zH := (126, [zyr0, zyr1, zyr2, zyr3, zyr4, zyr55, zyr23, zyr7], zym7)
def zyv200 : zAV := .inl ((.ofNat 16, .ofNat 76), none)
noncomputable def zyc114 : zC := .inr (8, [zyv114, zyv26, zyv27, zyv101, zyv115, zyv116, zyv117, zyv118, zyv126, zyv119, zyv25, zyv126, zyv118, zyv17, zyv165, zyv200, zyv166, zyv123, zyv124, zyv125, zyv35, zyv126, zyv127, zyv128, zyv13, zyv129, zyv130, zyv18, zyv18, zyv131, zyv132, zyv133, zyv134, zyv135, zyv136, zyv137, zyv138, zyv139, zyv140, zyv141, zyv142, zyv143, zyv144, zyv145, zyv15, zyv13, zyv15, zyv15, zyv146, zyv147, zyv148])
noncomputable def zyr56 : List zC := [zyc46, zyc46, zyc47, zyc48, zyc10, zyc11, zyc10, zyc12, zyc49, zyc14, zyc15, zyc50, zyc14, zyc15, zyc114, zyc52]
noncomputable def zyh51 : zH := (126, [zyr0, zyr1, zyr2, zyr3, zyr4, zyr56, zyr23, zyr7], zym7)
def zyv201 : zAV := .inl ((.ofNat 17, .ofNat 75), none)
noncomputable def zyc115 : zC := .inr (8, [zyv114, zyv26, zyv27, zyv101, zyv115, zyv116, zyv117, zyv118, zyv126, zyv119, zyv25, zyv126, zyv118, zyv17, zyv165, zyv201, zyv201, zyv123, zyv124, zyv125, zyv35, zyv126, zyv127, zyv128, zyv13, zyv129, zyv130, zyv18, zyv18, zyv131, zyv132, zyv133, zyv134, zyv135, zyv136, zyv137, zyv138, zyv139, zyv140, zyv141, zyv142, zyv143, zyv144, zyv145, zyv15, zyv13, zyv15, zyv15, zyv146, zyv147, zyv148])
noncomputable def zyr57 : List zC := [zyc46, zyc46, zyc47, zyc48, zyc10, zyc11, zyc10, zyc12, zyc49, zyc14, zyc15, zyc50, zyc14, zyc15, zyc115, zyc52]
noncomputable def zyh52 : zH := (126, [zyr0, zyr1, zyr2, zyr3, zyr4, zyr57, zyr23, zyr7], zym7)
def zyv202 : zAV := .inl ((.ofNat 17, .ofNat 76), none)
noncomputable def zyc116 : zC := .inr (8, [zyv114, zyv26, zyv27, zyv101, zyv115, zyv116, zyv117, zyv118, zyv126, zyv119, zyv25, zyv126, zyv118, zyv17, zyv165, zyv202, zyv166, zyv123, zyv124, zyv125, zyv35, zyv126, zyv127, zyv128, zyv13, zyv129, zyv130, zyv18, zyv18, zyv131, zyv132, zyv133, zyv134, zyv135, zyv136, zyv137, zyv138, zyv139, zyv140, zyv141, zyv142, zyv143, zyv144, zyv145, zyv15, zyv13, zyv15, zyv15, zyv146, zyv147, zyv148])
noncomputable def zyr58 : List zC := [zyc46, zyc46, zyc47, zyc48, zyc10, zyc11, zyc10, zyc12, zyc49, zyc14, zyc15, zyc50, zyc14, zyc15, zyc116, zyc52]
noncomputable def zyh53 : zH := (126, [zyr0, zyr1, zyr2, zyr3, zyr4, zyr58, zyr23, zyr7], zym7)
def zyv203 : zAV := .inl ((.ofNat 18, .ofNat 75), none)
noncomputable def zyc117 : zC := .inr (8, [zyv114, zyv26, zyv27, zyv101, zyv115, zyv116, zyv117, zyv118, zyv126, zyv119, zyv25, zyv126, zyv118, zyv17, zyv165, zyv203, zyv203, zyv123, zyv124, zyv125, zyv35, zyv126, zyv127, zyv128, zyv13, zyv129, zyv130, zyv18, zyv18, zyv131, zyv132, zyv133, zyv134, zyv135, zyv136, zyv137, zyv138, zyv139, zyv140, zyv141, zyv142, zyv143, zyv144, zyv145, zyv15, zyv13, zyv15, zyv15, zyv146, zyv147, zyv148])
noncomputable def zyr59 : List zC := [zyc46, zyc46, zyc47, zyc48, zyc10, zyc11, zyc10, zyc12, zyc49, zyc14, zyc15, zyc50, zyc14, zyc15, zyc117, zyc52]
noncomputable def zyh54 : zH := (126, [zyr0, zyr1, zyr2, zyr3, zyr4, zyr59, zyr23, zyr7], zym7)
def zyv204 : zAV := .inl ((.ofNat 18, .ofNat 76), none)
noncomputable def zyc118 : zC := .inr (8, [zyv114, zyv26, zyv27, zyv101, zyv115, zyv116, zyv117, zyv118, zyv126, zyv119, zyv25, zyv126, zyv118, zyv17, zyv165, zyv204, zyv166, zyv123, zyv124, zyv125, zyv35, zyv126, zyv127, zyv128, zyv13, zyv129, zyv130, zyv18, zyv18, zyv131, zyv132, zyv133, zyv134, zyv135, zyv136, zyv137, zyv138, zyv139, zyv140, zyv141, zyv142, zyv143, zyv144, zyv145, zyv15, zyv13, zyv15, zyv15, zyv146, zyv147, zyv148])
noncomputable def zyr60 : List zC := [zyc46, zyc46, zyc47, zyc48, zyc10, zyc11, zyc10, zyc12, zyc49, zyc14, zyc15, zyc50, zyc14, zyc15, zyc118, zyc52]
noncomputable def zyh55 : zH := (126, [zyr0, zyr1, zyr2, zyr3, zyr4, zyr60, zyr23, zyr7], zym7)
def zyv205 : zAV := .inl ((.ofNat 19, .ofNat 75), none)
noncomputable def zyc119 : zC := .inr (8, [zyv114, zyv26, zyv27, zyv101, zyv115, zyv116, zyv117, zyv118, zyv126, zyv119, zyv25, zyv126, zyv118, zyv17, zyv165, zyv205, zyv205, zyv123, zyv124, zyv125, zyv35, zyv126, zyv127, zyv128, zyv13, zyv129, zyv130, zyv18, zyv18, zyv131, zyv132, zyv133, zyv134, zyv135, zyv136, zyv137, zyv138, zyv139, zyv140, zyv141, zyv142, zyv143, zyv144, zyv145, zyv15, zyv13, zyv15, zyv15, zyv146, zyv147, zyv148])
noncomputable def zyr61 : List zC := [zyc46, zyc46, zyc47, zyc48, zyc10, zyc11, zyc10, zyc12, zyc49, zyc14, zyc15, zyc50, zyc14, zyc15, zyc119, zyc52]
noncomputable def zyh56 : zH := (126, [zyr0, zyr1, zyr2, zyr3, zyr4, zyr61, zyr23, zyr7], zym7)
def zyv206 : zAV := .inl ((.ofNat 19, .ofNat 76), none)
noncomputable def zyc120 : zC := .inr (8, [zyv114, zyv26, zyv27, zyv101, zyv115, zyv116, zyv117, zyv118, zyv126, zyv119, zyv25, zyv126, zyv118, zyv17, zyv165, zyv206, zyv166, zyv123, zyv124, zyv125, zyv35, zyv126, zyv127, zyv128, zyv13, zyv129, zyv130, zyv18, zyv18, zyv131, zyv132, zyv133, zyv134, zyv135, zyv136, zyv137, zyv138, zyv139, zyv140, zyv141, zyv142, zyv143, zyv144, zyv145, zyv15, zyv13, zyv15, zyv15, zyv146, zyv147, zyv148])
noncomputable def zyr62 : List zC := [zyc46, zyc46, zyc47, zyc48, zyc10, zyc11, zyc10, zyc12, zyc49, zyc14, zyc15, zyc50, zyc14, zyc15, zyc120, zyc52]
noncomputable def zyh57 : zH := (126, [zyr0, zyr1, zyr2, zyr3, zyr4, zyr62, zyr23, zyr7], zym7)
def zyv207 : zAV := .inl ((.ofNat 20, .ofNat 75), none)
noncomputable def zyc121 : zC := .inr (8, [zyv114, zyv26, zyv27, zyv101, zyv115, zyv116, zyv117, zyv118, zyv126, zyv119, zyv25, zyv126, zyv118, zyv17, zyv165, zyv207, zyv207, zyv123, zyv124, zyv125, zyv35, zyv126, zyv127, zyv128, zyv13, zyv129, zyv130, zyv18, zyv18, zyv131, zyv132, zyv133, zyv134, zyv135, zyv136, zyv137, zyv138, zyv139, zyv140, zyv141, zyv142, zyv143, zyv144, zyv145, zyv15, zyv13, zyv15, zyv15, zyv146, zyv147, zyv148])
noncomputable def zyr63 : List zC := [zyc46, zyc46, zyc47, zyc48, zyc10, zyc11, zyc10, zyc12, zyc49, zyc14, zyc15, zyc50, zyc14, zyc15, zyc121, zyc52]
noncomputable def zyh58 : zH := (126, [zyr0, zyr1, zyr2, zyr3, zyr4, zyr63, zyr23, zyr7], zym7)
def zyv208 : zAV := .inl ((.ofNat 20, .ofNat 76), none)
noncomputable def zyc122 : zC := .inr (8, [zyv114, zyv26, zyv27, zyv101, zyv115, zyv116, zyv117, zyv118, zyv126, zyv119, zyv25, zyv126, zyv118, zyv17, zyv165, zyv208, zyv166, zyv123, zyv124, zyv125, zyv35, zyv126, zyv127, zyv128, zyv13, zyv129, zyv130, zyv18, zyv18, zyv131, zyv132, zyv133, zyv134, zyv135, zyv136, zyv137, zyv138, zyv139, zyv140, zyv141, zyv142, zyv143, zyv144, zyv145, zyv15, zyv13, zyv15, zyv15, zyv146, zyv147, zyv148])
noncomputable def zyr64 : List zC := [zyc46, zyc46, zyc47, zyc48, zyc10, zyc11, zyc10, zyc12, zyc49, zyc14, zyc15, zyc50, zyc14, zyc15, zyc122, zyc52]
noncomputable def zyh59 : zH := (126, [zyr0, zyr1, zyr2, zyr3, zyr4, zyr64, zyr23, zyr7], zym7)
def zyv209 : zAV := .inl ((.ofNat 21, .ofNat 75), none)
noncomputable def zyc123 : zC := .inr (8, [zyv114, zyv26, zyv27, zyv101, zyv115, zyv116, zyv117, zyv118, zyv126, zyv119, zyv25, zyv126, zyv118, zyv17, zyv165, zyv209, zyv209, zyv123, zyv124, zyv125, zyv35, zyv126, zyv127, zyv128, zyv13, zyv129, zyv130, zyv18, zyv18, zyv131, zyv132, zyv133, zyv134, zyv135, zyv136, zyv137, zyv138, zyv139, zyv140, zyv141, zyv142, zyv143, zyv144, zyv145, zyv15, zyv13, zyv15, zyv15, zyv146, zyv147, zyv148])
noncomputable def zyr65 : List zC := [zyc46, zyc46, zyc47, zyc48, zyc10, zyc11, zyc10, zyc12, zyc49, zyc14, zyc15, zyc50, zyc14, zyc15, zyc123, zyc52]
noncomputable def zyh60 : zH := (126, [zyr0, zyr1, zyr2, zyr3, zyr4, zyr65, zyr23, zyr7], zym7)
def zyv210 : zAV := .inl ((.ofNat 21, .ofNat 76), none)
noncomputable def zyc124 : zC := .inr (8, [zyv114, zyv26, zyv27, zyv101, zyv115, zyv116, zyv117, zyv118, zyv126, zyv119, zyv25, zyv126, zyv118, zyv17, zyv165, zyv210, zyv166, zyv123, zyv124, zyv125, zyv35, zyv126, zyv127, zyv128, zyv13, zyv129, zyv130, zyv18, zyv18, zyv131, zyv132, zyv133, zyv134, zyv135, zyv136, zyv137, zyv138, zyv139, zyv140, zyv141, zyv142, zyv143, zyv144, zyv145, zyv15, zyv13, zyv15, zyv15, zyv146, zyv147, zyv148])
noncomputable def zyr66 : List zC := [zyc46, zyc46, zyc47, zyc48, zyc10, zyc11, zyc10, zyc12, zyc49, zyc14, zyc15, zyc50, zyc14, zyc15, zyc124, zyc52]
noncomputable def zyh61 : zH := (126, [zyr0, zyr1, zyr2, zyr3, zyr4, zyr66, zyr23, zyr7], zym7)
def zyv211 : zAV := .inl ((.ofNat 22, .ofNat 75), none)
noncomputable def zyc125 : zC := .inr (8, [zyv114, zyv26, zyv27, zyv101, zyv115, zyv116, zyv117, zyv118, zyv126, zyv119, zyv25, zyv126, zyv118, zyv17, zyv165, zyv211, zyv211, zyv123, zyv124, zyv125, zyv35, zyv126, zyv127, zyv128, zyv13, zyv129, zyv130, zyv18, zyv18, zyv131, zyv132, zyv133, zyv134, zyv135, zyv136, zyv137, zyv138, zyv139, zyv140, zyv141, zyv142, zyv143, zyv144, zyv145, zyv15, zyv13, zyv15, zyv15, zyv146, zyv147, zyv148])
noncomputable def zyr67 : List zC := [zyc46, zyc46, zyc47, zyc48, zyc10, zyc11, zyc10, zyc12, zyc49, zyc14, zyc15, zyc50, zyc14, zyc15, zyc125, zyc52]
noncomputable def zyh62 : zH := (126, [zyr0, zyr1, zyr2, zyr3, zyr4, zyr67, zyr23, zyr7], zym7)
def zyv212 : zAV := .inl ((.ofNat 22, .ofNat 76), none)
noncomputable def zyc126 : zC := .inr (8, [zyv114, zyv26, zyv27, zyv101, zyv115, zyv116, zyv117, zyv118, zyv126, zyv119, zyv25, zyv126, zyv118, zyv17, zyv165, zyv212, zyv166, zyv123, zyv124, zyv125, zyv35, zyv126, zyv127, zyv128, zyv13, zyv129, zyv130, zyv18, zyv18, zyv131, zyv132, zyv133, zyv134, zyv135, zyv136, zyv137, zyv138, zyv139, zyv140, zyv141, zyv142, zyv143, zyv144, zyv145, zyv15, zyv13, zyv15, zyv15, zyv146, zyv147, zyv148])
noncomputable def zyr68 : List zC := [zyc46, zyc46, zyc47, zyc48, zyc10, zyc11, zyc10, zyc12, zyc49, zyc14, zyc15, zyc50, zyc14, zyc15, zyc126, zyc52]
noncomputable def zyh63 : zH := (126, [zyr0, zyr1, zyr2, zyr3, zyr4, zyr68, zyr23, zyr7], zym7)
def zyv213 : zAV := .inl ((.ofNat 23, .ofNat 75), none)
noncomputable def zyc127 : zC := .inr (8, [zyv114, zyv26, zyv27, zyv101, zyv115, zyv116, zyv117, zyv118, zyv126, zyv119, zyv25, zyv126, zyv118, zyv17, zyv165, zyv213, zyv213, zyv123, zyv124, zyv125, zyv35, zyv126, zyv127, zyv128, zyv13, zyv129, zyv130, zyv18, zyv18, zyv131, zyv132, zyv133, zyv134, zyv135, zyv136, zyv137, zyv138, zyv139, zyv140, zyv141, zyv142, zyv143, zyv144, zyv145, zyv15, zyv13, zyv15, zyv15, zyv146, zyv147, zyv148])
noncomputable def zyr69 : List zC := [zyc46, zyc46, zyc47, zyc48, zyc10, zyc11, zyc10, zyc12, zyc49, zyc14, zyc15, zyc50, zyc14, zyc15, zyc127, zyc52]
noncomputable def zyh64 : zH := (126, [zyr0, zyr1, zyr2, zyr3, zyr4, zyr69, zyr23, zyr7], zym7)
def zyv214 : zAV := .inl ((.ofNat 23, .ofNat 76), none)
noncomputable def zyc128 : zC := .inr (8, [zyv114, zyv26, zyv27, zyv101, zyv115, zyv116, zyv117, zyv118, zyv126, zyv119, zyv25, zyv126, zyv118, zyv17, zyv165, zyv214, zyv166, zyv123, zyv124, zyv125, zyv35, zyv126, zyv127, zyv128, zyv13, zyv129, zyv130, zyv18, zyv18, zyv131, zyv132, zyv133, zyv134, zyv135, zyv136, zyv137, zyv138, zyv139, zyv140, zyv141, zyv142, zyv143, zyv144, zyv145, zyv15, zyv13, zyv15, zyv15, zyv146, zyv147, zyv148])
noncomputable def zyr70 : List zC := [zyc46, zyc46, zyc47, zyc48, zyc10, zyc11, zyc10, zyc12, zyc49, zyc14, zyc15, zyc50, zyc14, zyc15, zyc128, zyc52]
noncomputable def zyh65 : zH := (126, [zyr0, zyr1, zyr2, zyr3, zyr4, zyr70, zyr23, zyr7], zym7)
def zyv215 : zAV := .inl ((.ofNat 24, .ofNat 75), none)
noncomputable def zyc129 : zC := .inr (8, [zyv114, zyv26, zyv27, zyv101, zyv115, zyv116, zyv117, zyv118, zyv126, zyv119, zyv25, zyv126, zyv118, zyv17, zyv165, zyv215, zyv215, zyv123, zyv124, zyv125, zyv35, zyv126, zyv127, zyv128, zyv13, zyv129, zyv130, zyv18, zyv18, zyv131, zyv132, zyv133, zyv134, zyv135, zyv136, zyv137, zyv138, zyv139, zyv140, zyv141, zyv142, zyv143, zyv144, zyv145, zyv15, zyv13, zyv15, zyv15, zyv146, zyv147, zyv148])
noncomputable def zyr71 : List zC := [zyc46, zyc46, zyc47, zyc48, zyc10, zyc11, zyc10, zyc12, zyc49, zyc14, zyc15, zyc50, zyc14, zyc15, zyc129, zyc52]
noncomputable def zyh66 : zH := (126, [zyr0, zyr1, zyr2, zyr3, zyr4, zyr71, zyr23, zyr7], zym7)
def zyv216 : zAV := .inl ((.ofNat 24, .ofNat 76), none)
noncomputable def zyc130 : zC := .inr (8, [zyv114, zyv26, zyv27, zyv101, zyv115, zyv116, zyv117, zyv118, zyv126, zyv119, zyv25, zyv126, zyv118, zyv17, zyv165, zyv216, zyv166, zyv123, zyv124, zyv125, zyv35, zyv126, zyv127, zyv128, zyv13, zyv129, zyv130, zyv18, zyv18, zyv131, zyv132, zyv133, zyv134, zyv135, zyv136, zyv137, zyv138, zyv139, zyv140, zyv141, zyv142, zyv143, zyv144, zyv145, zyv15, zyv13, zyv15, zyv15, zyv146, zyv147, zyv148])
noncomputable def zyr72 : List zC := [zyc46, zyc46, zyc47, zyc48, zyc10, zyc11, zyc10, zyc12, zyc49, zyc14, zyc15, zyc50, zyc14, zyc15, zyc130, zyc52]
noncomputable def zyh67 : zH := (126, [zyr0, zyr1, zyr2, zyr3, zyr4, zyr72, zyr23, zyr7], zym7)
def zyv217 : zAV := .inl ((.ofNat 25, .ofNat 75), none)
noncomputable def zyc131 : zC := .inr (8, [zyv114, zyv26, zyv27, zyv101, zyv115, zyv116, zyv117, zyv118, zyv126, zyv119, zyv25, zyv126, zyv118, zyv17, zyv165, zyv217, zyv217, zyv123, zyv124, zyv125, zyv35, zyv126, zyv127, zyv128, zyv13, zyv129, zyv130, zyv18, zyv18, zyv131, zyv132, zyv133, zyv134, zyv135, zyv136, zyv137, zyv138, zyv139, zyv140, zyv141, zyv142, zyv143, zyv144, zyv145, zyv15, zyv13, zyv15, zyv15, zyv146, zyv147, zyv148])
noncomputable def zyr73 : List zC := [zyc46, zyc46, zyc47, zyc48, zyc10, zyc11, zyc10, zyc12, zyc49, zyc14, zyc15, zyc50, zyc14, zyc15, zyc131, zyc52]
noncomputable def zyh68 : zH := (126, [zyr0, zyr1, zyr2, zyr3, zyr4, zyr73, zyr23, zyr7], zym7)
def zyv218 : zAV := .inl ((.ofNat 25, .ofNat 76), none)
noncomputable def zyc132 : zC := .inr (8, [zyv114, zyv26, zyv27, zyv101, zyv115, zyv116, zyv117, zyv118, zyv126, zyv119, zyv25, zyv126, zyv118, zyv17, zyv165, zyv218, zyv166, zyv123, zyv124, zyv125, zyv35, zyv126, zyv127, zyv128, zyv13, zyv129, zyv130, zyv18, zyv18, zyv131, zyv132, zyv133, zyv134, zyv135, zyv136, zyv137, zyv138, zyv139, zyv140, zyv141, zyv142, zyv143, zyv144, zyv145, zyv15, zyv13, zyv15, zyv15, zyv146, zyv147, zyv148])
noncomputable def zyr74 : List zC := [zyc46, zyc46, zyc47, zyc48, zyc10, zyc11, zyc10, zyc12, zyc49, zyc14, zyc15, zyc50, zyc14, zyc15, zyc132, zyc52]
noncomputable def zyh69 : zH := (126, [zyr0, zyr1, zyr2, zyr3, zyr4, zyr74, zyr23, zyr7], zym7)
def zyv219 : zAV := .inl ((.ofNat 26, .ofNat 75), none)
noncomputable def zyc133 : zC := .inr (8, [zyv114, zyv26, zyv27, zyv101, zyv115, zyv116, zyv117, zyv118, zyv126, zyv119, zyv25, zyv126, zyv118, zyv17, zyv165, zyv219, zyv219, zyv123, zyv124, zyv125, zyv35, zyv126, zyv127, zyv128, zyv13, zyv129, zyv130, zyv18, zyv18, zyv131, zyv132, zyv133, zyv134, zyv135, zyv136, zyv137, zyv138, zyv139, zyv140, zyv141, zyv142, zyv143, zyv144, zyv145, zyv15, zyv13, zyv15, zyv15, zyv146, zyv147, zyv148])
noncomputable def zyr75 : List zC := [zyc46, zyc46, zyc47, zyc48, zyc10, zyc11, zyc10, zyc12, zyc49, zyc14, zyc15, zyc50, zyc14, zyc15, zyc133, zyc52]
noncomputable def zyh70 : zH := (126, [zyr0, zyr1, zyr2, zyr3, zyr4, zyr75, zyr23, zyr7], zym7)
def zyv220 : zAV := .inl ((.ofNat 26, .ofNat 76), none)
noncomputable def zyc134 : zC := .inr (8, [zyv114, zyv26, zyv27, zyv101, zyv115, zyv116, zyv117, zyv118, zyv126, zyv119, zyv25, zyv126, zyv118, zyv17, zyv165, zyv220, zyv166, zyv123, zyv124, zyv125, zyv35, zyv126, zyv127, zyv128, zyv13, zyv129, zyv130, zyv18, zyv18, zyv131, zyv132, zyv133, zyv134, zyv135, zyv136, zyv137, zyv138, zyv139, zyv140, zyv141, zyv142, zyv143, zyv144, zyv145, zyv15, zyv13, zyv15, zyv15, zyv146, zyv147, zyv148])
noncomputable def zyr76 : List zC := [zyc46, zyc46, zyc47, zyc48, zyc10, zyc11, zyc10, zyc12, zyc49, zyc14, zyc15, zyc50, zyc14, zyc15, zyc134, zyc52]
noncomputable def zyh71 : zH := (126, [zyr0, zyr1, zyr2, zyr3, zyr4, zyr76, zyr23, zyr7], zym7)
def zyv221 : zAV := .inl ((.ofNat 27, .ofNat 75), none)
noncomputable def zyc135 : zC := .inr (8, [zyv114, zyv26, zyv27, zyv101, zyv115, zyv116, zyv117, zyv118, zyv126, zyv119, zyv25, zyv126, zyv118, zyv17, zyv165, zyv221, zyv221, zyv123, zyv124, zyv125, zyv35, zyv126, zyv127, zyv128, zyv13, zyv129, zyv130, zyv18, zyv18, zyv131, zyv132, zyv133, zyv134, zyv135, zyv136, zyv137, zyv138, zyv139, zyv140, zyv141, zyv142, zyv143, zyv144, zyv145, zyv15, zyv13, zyv15, zyv15, zyv146, zyv147, zyv148])
noncomputable def zyr77 : List zC := [zyc46, zyc46, zyc47, zyc48, zyc10, zyc11, zyc10, zyc12, zyc49, zyc14, zyc15, zyc50, zyc14, zyc15, zyc135, zyc52]
noncomputable def zyh72 : zH := (126, [zyr0, zyr1, zyr2, zyr3, zyr4, zyr77, zyr23, zyr7], zym7)
def zyv222 : zAV := .inl ((.ofNat 27, .ofNat 76), none)
noncomputable def zyc136 : zC := .inr (8, [zyv114, zyv26, zyv27, zyv101, zyv115, zyv116, zyv117, zyv118, zyv126, zyv119, zyv25, zyv126, zyv118, zyv17, zyv165, zyv222, zyv166, zyv123, zyv124, zyv125, zyv35, zyv126, zyv127, zyv128, zyv13, zyv129, zyv130, zyv18, zyv18, zyv131, zyv132, zyv133, zyv134, zyv135, zyv136, zyv137, zyv138, zyv139, zyv140, zyv141, zyv142, zyv143, zyv144, zyv145, zyv15, zyv13, zyv15, zyv15, zyv146, zyv147, zyv148])
noncomputable def zyr78 : List zC := [zyc46, zyc46, zyc47, zyc48, zyc10, zyc11, zyc10, zyc12, zyc49, zyc14, zyc15, zyc50, zyc14, zyc15, zyc136, zyc52]
noncomputable def zyh73 : zH := (126, [zyr0, zyr1, zyr2, zyr3, zyr4, zyr78, zyr23, zyr7], zym7)
def zyv223 : zAV := .inl ((.ofNat 28, .ofNat 75), none)
noncomputable def zyc137 : zC := .inr (8, [zyv114, zyv26, zyv27, zyv101, zyv115, zyv116, zyv117, zyv118, zyv126, zyv119, zyv25, zyv126, zyv118, zyv17, zyv165, zyv223, zyv223, zyv123, zyv124, zyv125, zyv35, zyv126, zyv127, zyv128, zyv13, zyv129, zyv130, zyv18, zyv18, zyv131, zyv132, zyv133, zyv134, zyv135, zyv136, zyv137, zyv138, zyv139, zyv140, zyv141, zyv142, zyv143, zyv144, zyv145, zyv15, zyv13, zyv15, zyv15, zyv146, zyv147, zyv148])
noncomputable def zyr79 : List zC := [zyc46, zyc46, zyc47, zyc48, zyc10, zyc11, zyc10, zyc12, zyc49, zyc14, zyc15, zyc50, zyc14, zyc15, zyc137, zyc52]
noncomputable def zyh74 : zH := (126, [zyr0, zyr1, zyr2, zyr3, zyr4, zyr79, zyr23, zyr7], zym7)
def zyv224 : zAV := .inl ((.ofNat 28, .ofNat 76), none)
noncomputable def zyc138 : zC := .inr (8, [zyv114, zyv26, zyv27, zyv101, zyv115, zyv116, zyv117, zyv118, zyv126, zyv119, zyv25, zyv126, zyv118, zyv17, zyv165, zyv224, zyv166, zyv123, zyv124, zyv125, zyv35, zyv126, zyv127, zyv128, zyv13, zyv129, zyv130, zyv18, zyv18, zyv131, zyv132, zyv133, zyv134, zyv135, zyv136, zyv137, zyv138, zyv139, zyv140, zyv141, zyv142, zyv143, zyv144, zyv145, zyv15, zyv13, zyv15, zyv15, zyv146, zyv147, zyv148])
noncomputable def zyr80 : List zC := [zyc46, zyc46, zyc47, zyc48, zyc10, zyc11, zyc10, zyc12, zyc49, zyc14, zyc15, zyc50, zyc14, zyc15, zyc138, zyc52]
noncomputable def zyh75 : zH := (126, [zyr0, zyr1, zyr2, zyr3, zyr4, zyr80, zyr23, zyr7], zym7)
def zyv225 : zAV := .inl ((.ofNat 29, .ofNat 75), none)
noncomputable def zyc139 : zC := .inr (8, [zyv114, zyv26, zyv27, zyv101, zyv115, zyv116, zyv117, zyv118, zyv126, zyv119, zyv25, zyv126, zyv118, zyv17, zyv165, zyv225, zyv225, zyv123, zyv124, zyv125, zyv35, zyv126, zyv127, zyv128, zyv13, zyv129, zyv130, zyv18, zyv18, zyv131, zyv132, zyv133, zyv134, zyv135, zyv136, zyv137, zyv138, zyv139, zyv140, zyv141, zyv142, zyv143, zyv144, zyv145, zyv15, zyv13, zyv15, zyv15, zyv146, zyv147, zyv148])
noncomputable def zyr81 : List zC := [zyc46, zyc46, zyc47, zyc48, zyc10, zyc11, zyc10, zyc12, zyc49, zyc14, zyc15, zyc50, zyc14, zyc15, zyc139, zyc52]
noncomputable def zyh76 : zH := (126, [zyr0, zyr1, zyr2, zyr3, zyr4, zyr81, zyr23, zyr7], zym7)
def zyv226 : zAV := .inl ((.ofNat 29, .ofNat 76), none)
noncomputable def zyc140 : zC := .inr (8, [zyv114, zyv26, zyv27, zyv101, zyv115, zyv116, zyv117, zyv118, zyv126, zyv119, zyv25, zyv126, zyv118, zyv17, zyv165, zyv226, zyv166, zyv123, zyv124, zyv125, zyv35, zyv126, zyv127, zyv128, zyv13, zyv129, zyv130, zyv18, zyv18, zyv131, zyv132, zyv133, zyv134, zyv135, zyv136, zyv137, zyv138, zyv139, zyv140, zyv141, zyv142, zyv143, zyv144, zyv145, zyv15, zyv13, zyv15, zyv15, zyv146, zyv147, zyv148])
noncomputable def zyr82 : List zC := [zyc46, zyc46, zyc47, zyc48, zyc10, zyc11, zyc10, zyc12, zyc49, zyc14, zyc15, zyc50, zyc14, zyc15, zyc140, zyc52]
noncomputable def zyh77 : zH := (126, [zyr0, zyr1, zyr2, zyr3, zyr4, zyr82, zyr23, zyr7], zym7)
def zyv227 : zAV := .inl ((.ofNat 30, .ofNat 75), none)
noncomputable def zyc141 : zC := .inr (8, [zyv114, zyv26, zyv27, zyv101, zyv115, zyv116, zyv117, zyv118, zyv126, zyv119, zyv25, zyv126, zyv118, zyv17, zyv165, zyv227, zyv227, zyv123, zyv124, zyv125, zyv35, zyv126, zyv127, zyv128, zyv13, zyv129, zyv130, zyv18, zyv18, zyv131, zyv132, zyv133, zyv134, zyv135, zyv136, zyv137, zyv138, zyv139, zyv140, zyv141, zyv142, zyv143, zyv144, zyv145, zyv15, zyv13, zyv15, zyv15, zyv146, zyv147, zyv148])
noncomputable def zyr83 : List zC := [zyc46, zyc46, zyc47, zyc48, zyc10, zyc11, zyc10, zyc12, zyc49, zyc14, zyc15, zyc50, zyc14, zyc15, zyc141, zyc52]
noncomputable def zyh78 : zH := (126, [zyr0, zyr1, zyr2, zyr3, zyr4, zyr83, zyr23, zyr7], zym7)
def zyv228 : zAV := .inl ((.ofNat 30, .ofNat 76), none)
noncomputable def zyc142 : zC := .inr (8, [zyv114, zyv26, zyv27, zyv101, zyv115, zyv116, zyv117, zyv118, zyv126, zyv119, zyv25, zyv126, zyv118, zyv17, zyv165, zyv228, zyv166, zyv123, zyv124, zyv125, zyv35, zyv126, zyv127, zyv128, zyv13, zyv129, zyv130, zyv18, zyv18, zyv131, zyv132, zyv133, zyv134, zyv135, zyv136, zyv137, zyv138, zyv139, zyv140, zyv141, zyv142, zyv143, zyv144, zyv145, zyv15, zyv13, zyv15, zyv15, zyv146, zyv147, zyv148])
noncomputable def zyr84 : List zC := [zyc46, zyc46, zyc47, zyc48, zyc10, zyc11, zyc10, zyc12, zyc49, zyc14, zyc15, zyc50, zyc14, zyc15, zyc142, zyc52]
noncomputable def zyh79 : zH := (126, [zyr0, zyr1, zyr2, zyr3, zyr4, zyr84, zyr23, zyr7], zym7)
def zyv229 : zAV := .inl ((.ofNat 31, .ofNat 75), none)
noncomputable def zyc143 : zC := .inr (8, [zyv114, zyv26, zyv27, zyv101, zyv115, zyv116, zyv117, zyv118, zyv126, zyv119, zyv25, zyv126, zyv118, zyv17, zyv165, zyv229, zyv229, zyv123, zyv124, zyv125, zyv35, zyv126, zyv127, zyv128, zyv13, zyv129, zyv130, zyv18, zyv18, zyv131, zyv132, zyv133, zyv134, zyv135, zyv136, zyv137, zyv138, zyv139, zyv140, zyv141, zyv142, zyv143, zyv144, zyv145, zyv15, zyv13, zyv15, zyv15, zyv146, zyv147, zyv148])
noncomputable def zyr85 : List zC := [zyc46, zyc46, zyc47, zyc48, zyc10, zyc11, zyc10, zyc12, zyc49, zyc14, zyc15, zyc50, zyc14, zyc15, zyc143, zyc52]
noncomputable def zyh80 : zH := (126, [zyr0, zyr1, zyr2, zyr3, zyr4, zyr85, zyr23, zyr7], zym7)
def zyv230 : zAV := .inl ((.ofNat 31, .ofNat 76), none)
noncomputable def zyc144 : zC := .inr (8, [zyv114, zyv26, zyv27, zyv101, zyv115, zyv116, zyv117, zyv118, zyv126, zyv119, zyv25, zyv126, zyv118, zyv17, zyv165, zyv230, zyv166, zyv123, zyv124, zyv125, zyv35, zyv126, zyv127, zyv128, zyv13, zyv129, zyv130, zyv18, zyv18, zyv131, zyv132, zyv133, zyv134, zyv135, zyv136, zyv137, zyv138, zyv139, zyv140, zyv141, zyv142, zyv143, zyv144, zyv145, zyv15, zyv13, zyv15, zyv15, zyv146, zyv147, zyv148])
noncomputable def zyr86 : List zC := [zyc46, zyc46, zyc47, zyc48, zyc10, zyc11, zyc10, zyc12, zyc49, zyc14, zyc15, zyc50, zyc14, zyc15, zyc144, zyc52]
noncomputable def zyh81 : zH := (126, [zyr0, zyr1, zyr2, zyr3, zyr4, zyr86, zyr23, zyr7], zym7)
def zyv231 : zAV := .inl ((.ofNat 32, .ofNat 75), none)
noncomputable def zyc145 : zC := .inr (8, [zyv114, zyv26, zyv27, zyv101, zyv115, zyv116, zyv117, zyv118, zyv126, zyv119, zyv25, zyv126, zyv118, zyv17, zyv165, zyv231, zyv231, zyv123, zyv124, zyv125, zyv35, zyv126, zyv127, zyv128, zyv13, zyv129, zyv130, zyv18, zyv18, zyv131, zyv132, zyv133, zyv134, zyv135, zyv136, zyv137, zyv138, zyv139, zyv140, zyv141, zyv142, zyv143, zyv144, zyv145, zyv15, zyv13, zyv15, zyv15, zyv146, zyv147, zyv148])
noncomputable def zyr87 : List zC := [zyc46, zyc46, zyc47, zyc48, zyc10, zyc11, zyc10, zyc12, zyc49, zyc14, zyc15, zyc50, zyc14, zyc15, zyc145, zyc52]
noncomputable def zyh82 : zH := (126, [zyr0, zyr1, zyr2, zyr3, zyr4, zyr87, zyr23, zyr7], zym7)
def zyv232 : zAV := .inl ((.ofNat 32, .ofNat 76), none)
noncomputable def zyc146 : zC := .inr (8, [zyv114, zyv26, zyv27, zyv101, zyv115, zyv116, zyv117, zyv118, zyv126, zyv119, zyv25, zyv126, zyv118, zyv17, zyv165, zyv232, zyv166, zyv123, zyv124, zyv125, zyv35, zyv126, zyv127, zyv128, zyv13, zyv129, zyv130, zyv18, zyv18, zyv131, zyv132, zyv133, zyv134, zyv135, zyv136, zyv137, zyv138, zyv139, zyv140, zyv141, zyv142, zyv143, zyv144, zyv145, zyv15, zyv13, zyv15, zyv15, zyv146, zyv147, zyv148])
noncomputable def zyr88 : List zC := [zyc46, zyc46, zyc47, zyc48, zyc10, zyc11, zyc10, zyc12, zyc49, zyc14, zyc15, zyc50, zyc14, zyc15, zyc146, zyc52]
noncomputable def zyh83 : zH := (126, [zyr0, zyr1, zyr2, zyr3, zyr4, zyr88, zyr23, zyr7], zym7)
def zyv233 : zAV := .inl ((.ofNat 33, .ofNat 75), none)
noncomputable def zyc147 : zC := .inr (8, [zyv114, zyv26, zyv27, zyv101, zyv115, zyv116, zyv117, zyv118, zyv126, zyv119, zyv25, zyv126, zyv118, zyv17, zyv165, zyv233, zyv233, zyv123, zyv124, zyv125, zyv35, zyv126, zyv127, zyv128, zyv13, zyv129, zyv130, zyv18, zyv18, zyv131, zyv132, zyv133, zyv134, zyv135, zyv136, zyv137, zyv138, zyv139, zyv140, zyv141, zyv142, zyv143, zyv144, zyv145, zyv15, zyv13, zyv15, zyv15, zyv146, zyv147, zyv148])
noncomputable def zyr89 : List zC := [zyc46, zyc46, zyc47, zyc48, zyc10, zyc11, zyc10, zyc12, zyc49, zyc14, zyc15, zyc50, zyc14, zyc15, zyc147, zyc52]
noncomputable def zyh84 : zH := (126, [zyr0, zyr1, zyr2, zyr3, zyr4, zyr89, zyr23, zyr7], zym7)
def zyv234 : zAV := .inl ((.ofNat 33, .ofNat 76), none)
noncomputable def zyc148 : zC := .inr (8, [zyv114, zyv26, zyv27, zyv101, zyv115, zyv116, zyv117, zyv118, zyv126, zyv119, zyv25, zyv126, zyv118, zyv17, zyv165, zyv234, zyv166, zyv123, zyv124, zyv125, zyv35, zyv126, zyv127, zyv128, zyv13, zyv129, zyv130, zyv18, zyv18, zyv131, zyv132, zyv133, zyv134, zyv135, zyv136, zyv137, zyv138, zyv139, zyv140, zyv141, zyv142, zyv143, zyv144, zyv145, zyv15, zyv13, zyv15, zyv15, zyv146, zyv147, zyv148])
noncomputable def zyr90 : List zC := [zyc46, zyc46, zyc47, zyc48, zyc10, zyc11, zyc10, zyc12, zyc49, zyc14, zyc15, zyc50, zyc14, zyc15, zyc148, zyc52]
noncomputable def zyh85 : zH := (126, [zyr0, zyr1, zyr2, zyr3, zyr4, zyr90, zyr23, zyr7], zym7)
def zyv235 : zAV := .inl ((.ofNat 34, .ofNat 75), none)
noncomputable def zyc149 : zC := .inr (8, [zyv114, zyv26, zyv27, zyv101, zyv115, zyv116, zyv117, zyv118, zyv126, zyv119, zyv25, zyv126, zyv118, zyv17, zyv165, zyv235, zyv235, zyv123, zyv124, zyv125, zyv35, zyv126, zyv127, zyv128, zyv13, zyv129, zyv130, zyv18, zyv18, zyv131, zyv132, zyv133, zyv134, zyv135, zyv136, zyv137, zyv138, zyv139, zyv140, zyv141, zyv142, zyv143, zyv144, zyv145, zyv15, zyv13, zyv15, zyv15, zyv146, zyv147, zyv148])
noncomputable def zyr91 : List zC := [zyc46, zyc46, zyc47, zyc48, zyc10, zyc11, zyc10, zyc12, zyc49, zyc14, zyc15, zyc50, zyc14, zyc15, zyc149, zyc52]
noncomputable def zyh86 : zH := (126, [zyr0, zyr1, zyr2, zyr3, zyr4, zyr91, zyr23, zyr7], zym7)
def zyv236 : zAV := .inl ((.ofNat 34, .ofNat 76), none)
noncomputable def zyc150 : zC := .inr (8, [zyv114, zyv26, zyv27, zyv101, zyv115, zyv116, zyv117, zyv118, zyv126, zyv119, zyv25, zyv126, zyv118, zyv17, zyv165, zyv236, zyv166, zyv123, zyv124, zyv125, zyv35, zyv126, zyv127, zyv128, zyv13, zyv129, zyv130, zyv18, zyv18, zyv131, zyv132, zyv133, zyv134, zyv135, zyv136, zyv137, zyv138, zyv139, zyv140, zyv141, zyv142, zyv143, zyv144, zyv145, zyv15, zyv13, zyv15, zyv15, zyv146, zyv147, zyv148])
noncomputable def zyr92 : List zC := [zyc46, zyc46, zyc47, zyc48, zyc10, zyc11, zyc10, zyc12, zyc49, zyc14, zyc15, zyc50, zyc14, zyc15, zyc150, zyc52]
noncomputable def zyh87 : zH := (126, [zyr0, zyr1, zyr2, zyr3, zyr4, zyr92, zyr23, zyr7], zym7)
def zyv237 : zAV := .inl ((.ofNat 35, .ofNat 75), none)
noncomputable def zyc151 : zC := .inr (8, [zyv114, zyv26, zyv27, zyv101, zyv115, zyv116, zyv117, zyv118, zyv126, zyv119, zyv25, zyv126, zyv118, zyv17, zyv165, zyv237, zyv237, zyv123, zyv124, zyv125, zyv35, zyv126, zyv127, zyv128, zyv13, zyv129, zyv130, zyv18, zyv18, zyv131, zyv132, zyv133, zyv134, zyv135, zyv136, zyv137, zyv138, zyv139, zyv140, zyv141, zyv142, zyv143, zyv144, zyv145, zyv15, zyv13, zyv15, zyv15, zyv146, zyv147, zyv148])
noncomputable def zyr93 : List zC := [zyc46, zyc46, zyc47, zyc48, zyc10, zyc11, zyc10, zyc12, zyc49, zyc14, zyc15, zyc50, zyc14, zyc15, zyc151, zyc52]
noncomputable def zyh88 : zH := (126, [zyr0, zyr1, zyr2, zyr3, zyr4, zyr93, zyr23, zyr7], zym7)
def zyv238 : zAV := .inl ((.ofNat 35, .ofNat 76), none)
noncomputable def zyc152 : zC := .inr (8, [zyv114, zyv26, zyv27, zyv101, zyv115, zyv116, zyv117, zyv118, zyv126, zyv119, zyv25, zyv126, zyv118, zyv17, zyv165, zyv238, zyv166, zyv123, zyv124, zyv125, zyv35, zyv126, zyv127, zyv128, zyv13, zyv129, zyv130, zyv18, zyv18, zyv131, zyv132, zyv133, zyv134, zyv135, zyv136, zyv137, zyv138, zyv139, zyv140, zyv141, zyv142, zyv143, zyv144, zyv145, zyv15, zyv13, zyv15, zyv15, zyv146, zyv147, zyv148])
noncomputable def zyr94 : List zC := [zyc46, zyc46, zyc47, zyc48, zyc10, zyc11, zyc10, zyc12, zyc49, zyc14, zyc15, zyc50, zyc14, zyc15, zyc152, zyc52]
noncomputable def zyh89 : zH := (126, [zyr0, zyr1, zyr2, zyr3, zyr4, zyr94, zyr23, zyr7], zym7)
def zyv239 : zAV := .inl ((.ofNat 36, .ofNat 75), none)
noncomputable def zyc153 : zC := .inr (8, [zyv114, zyv26, zyv27, zyv101, zyv115, zyv116, zyv117, zyv118, zyv126, zyv119, zyv25, zyv126, zyv118, zyv17, zyv165, zyv239, zyv239, zyv123, zyv124, zyv125, zyv35, zyv126, zyv127, zyv128, zyv13, zyv129, zyv130, zyv18, zyv18, zyv131, zyv132, zyv133, zyv134, zyv135, zyv136, zyv137, zyv138, zyv139, zyv140, zyv141, zyv142, zyv143, zyv144, zyv145, zyv15, zyv13, zyv15, zyv15, zyv146, zyv147, zyv148])
noncomputable def zyr95 : List zC := [zyc46, zyc46, zyc47, zyc48, zyc10, zyc11, zyc10, zyc12, zyc49, zyc14, zyc15, zyc50, zyc14, zyc15, zyc153, zyc52]
noncomputable def zyh90 : zH := (126, [zyr0, zyr1, zyr2, zyr3, zyr4, zyr95, zyr23, zyr7], zym7)
def zyv240 : zAV := .inl ((.ofNat 36, .ofNat 76), none)
noncomputable def zyc154 : zC := .inr (8, [zyv114, zyv26, zyv27, zyv101, zyv115, zyv116, zyv117, zyv118, zyv126, zyv119, zyv25, zyv126, zyv118, zyv17, zyv165, zyv240, zyv166, zyv123, zyv124, zyv125, zyv35, zyv126, zyv127, zyv128, zyv13, zyv129, zyv130, zyv18, zyv18, zyv131, zyv132, zyv133, zyv134, zyv135, zyv136, zyv137, zyv138, zyv139, zyv140, zyv141, zyv142, zyv143, zyv144, zyv145, zyv15, zyv13, zyv15, zyv15, zyv146, zyv147, zyv148])
noncomputable def zyr96 : List zC := [zyc46, zyc46, zyc47, zyc48, zyc10, zyc11, zyc10, zyc12, zyc49, zyc14, zyc15, zyc50, zyc14, zyc15, zyc154, zyc52]
noncomputable def zyh91 : zH := (126, [zyr0, zyr1, zyr2, zyr3, zyr4, zyr96, zyr23, zyr7], zym7)
def zyv241 : zAV := .inl ((.ofNat 37, .ofNat 75), none)
noncomputable def zyc155 : zC := .inr (8, [zyv114, zyv26, zyv27, zyv101, zyv115, zyv116, zyv117, zyv118, zyv126, zyv119, zyv25, zyv126, zyv118, zyv17, zyv165, zyv241, zyv241, zyv123, zyv124, zyv125, zyv35, zyv126, zyv127, zyv128, zyv13, zyv129, zyv130, zyv18, zyv18, zyv131, zyv132, zyv133, zyv134, zyv135, zyv136, zyv137, zyv138, zyv139, zyv140, zyv141, zyv142, zyv143, zyv144, zyv145, zyv15, zyv13, zyv15, zyv15, zyv146, zyv147, zyv148])
noncomputable def zyr97 : List zC := [zyc46, zyc46, zyc47, zyc48, zyc10, zyc11, zyc10, zyc12, zyc49, zyc14, zyc15, zyc50, zyc14, zyc15, zyc155, zyc52]
noncomputable def zyh92 : zH := (126, [zyr0, zyr1, zyr2, zyr3, zyr4, zyr97, zyr23, zyr7], zym7)
def zyv242 : zAV := .inl ((.ofNat 37, .ofNat 76), none)
noncomputable def zyc156 : zC := .inr (8, [zyv114, zyv26, zyv27, zyv101, zyv115, zyv116, zyv117, zyv118, zyv126, zyv119, zyv25, zyv126, zyv118, zyv17, zyv165, zyv242, zyv166, zyv123, zyv124, zyv125, zyv35, zyv126, zyv127, zyv128, zyv13, zyv129, zyv130, zyv18, zyv18, zyv131, zyv132, zyv133, zyv134, zyv135, zyv136, zyv137, zyv138, zyv139, zyv140, zyv141, zyv142, zyv143, zyv144, zyv145, zyv15, zyv13, zyv15, zyv15, zyv146, zyv147, zyv148])
noncomputable def zyr98 : List zC := [zyc46, zyc46, zyc47, zyc48, zyc10, zyc11, zyc10, zyc12, zyc49, zyc14, zyc15, zyc50, zyc14, zyc15, zyc156, zyc52]
noncomputable def zyh93 : zH := (126, [zyr0, zyr1, zyr2, zyr3, zyr4, zyr98, zyr23, zyr7], zym7)
def zyv243 : zAV := .inl ((.ofNat 38, .ofNat 75), none)
noncomputable def zyc157 : zC := .inr (8, [zyv114, zyv26, zyv27, zyv101, zyv115, zyv116, zyv117, zyv118, zyv126, zyv119, zyv25, zyv126, zyv118, zyv17, zyv165, zyv243, zyv243, zyv123, zyv124, zyv125, zyv35, zyv126, zyv127, zyv128, zyv13, zyv129, zyv130, zyv18, zyv18, zyv131, zyv132, zyv133, zyv134, zyv135, zyv136, zyv137, zyv138, zyv139, zyv140, zyv141, zyv142, zyv143, zyv144, zyv145, zyv15, zyv13, zyv15, zyv15, zyv146, zyv147, zyv148])
noncomputable def zyr99 : List zC := [zyc46, zyc46, zyc47, zyc48, zyc10, zyc11, zyc10, zyc12, zyc49, zyc14, zyc15, zyc50, zyc14, zyc15, zyc157, zyc52]
noncomputable def zyh94 : zH := (126, [zyr0, zyr1, zyr2, zyr3, zyr4, zyr99, zyr23, zyr7], zym7)
def zyv244 : zAV := .inl ((.ofNat 38, .ofNat 76), none)
noncomputable def zyc158 : zC := .inr (8, [zyv114, zyv26, zyv27, zyv101, zyv115, zyv116, zyv117, zyv118, zyv126, zyv119, zyv25, zyv126, zyv118, zyv17, zyv165, zyv244, zyv166, zyv123, zyv124, zyv125, zyv35, zyv126, zyv127, zyv128, zyv13, zyv129, zyv130, zyv18, zyv18, zyv131, zyv132, zyv133, zyv134, zyv135, zyv136, zyv137, zyv138, zyv139, zyv140, zyv141, zyv142, zyv143, zyv144, zyv145, zyv15, zyv13, zyv15, zyv15, zyv146, zyv147, zyv148])
noncomputable def zyr100 : List zC := [zyc46, zyc46, zyc47, zyc48, zyc10, zyc11, zyc10, zyc12, zyc49, zyc14, zyc15, zyc50, zyc14, zyc15, zyc158, zyc52]
noncomputable def zyh95 : zH := (126, [zyr0, zyr1, zyr2, zyr3, zyr4, zyr100, zyr23, zyr7], zym7)
def zyv245 : zAV := .inl ((.ofNat 39, .ofNat 75), none)
noncomputable def zyc159 : zC := .inr (8, [zyv114, zyv26, zyv27, zyv101, zyv115, zyv116, zyv117, zyv118, zyv126, zyv119, zyv25, zyv126, zyv118, zyv17, zyv165, zyv245, zyv245, zyv123, zyv124, zyv125, zyv35, zyv126, zyv127, zyv128, zyv13, zyv129, zyv130, zyv18, zyv18, zyv131, zyv132, zyv133, zyv134, zyv135, zyv136, zyv137, zyv138, zyv139, zyv140, zyv141, zyv142, zyv143, zyv144, zyv145, zyv15, zyv13, zyv15, zyv15, zyv146, zyv147, zyv148])
noncomputable def zyr101 : List zC := [zyc46, zyc46, zyc47, zyc48, zyc10, zyc11, zyc10, zyc12, zyc49, zyc14, zyc15, zyc50, zyc14, zyc15, zyc159, zyc52]
noncomputable def zyh96 : zH := (126, [zyr0, zyr1, zyr2, zyr3, zyr4, zyr101, zyr23, zyr7], zym7)
def zyv246 : zAV := .inl ((.ofNat 39, .ofNat 76), none)
noncomputable def zyc160 : zC := .inr (8, [zyv114, zyv26, zyv27, zyv101, zyv115, zyv116, zyv117, zyv118, zyv126, zyv119, zyv25, zyv126, zyv118, zyv17, zyv165, zyv246, zyv166, zyv123, zyv124, zyv125, zyv35, zyv126, zyv127, zyv128, zyv13, zyv129, zyv130, zyv18, zyv18, zyv131, zyv132, zyv133, zyv134, zyv135, zyv136, zyv137, zyv138, zyv139, zyv140, zyv141, zyv142, zyv143, zyv144, zyv145, zyv15, zyv13, zyv15, zyv15, zyv146, zyv147, zyv148])
noncomputable def zyr102 : List zC := [zyc46, zyc46, zyc47, zyc48, zyc10, zyc11, zyc10, zyc12, zyc49, zyc14, zyc15, zyc50, zyc14, zyc15, zyc160, zyc52]
noncomputable def zyh97 : zH := (126, [zyr0, zyr1, zyr2, zyr3, zyr4, zyr102, zyr23, zyr7], zym7)
def zyv247 : zAV := .inl ((.ofNat 40, .ofNat 75), none)
noncomputable def zyc161 : zC := .inr (8, [zyv114, zyv26, zyv27, zyv101, zyv115, zyv116, zyv117, zyv118, zyv126, zyv119, zyv25, zyv126, zyv118, zyv17, zyv165, zyv247, zyv247, zyv123, zyv124, zyv125, zyv35, zyv126, zyv127, zyv128, zyv13, zyv129, zyv130, zyv18, zyv18, zyv131, zyv132, zyv133, zyv134, zyv135, zyv136, zyv137, zyv138, zyv139, zyv140, zyv141, zyv142, zyv143, zyv144, zyv145, zyv15, zyv13, zyv15, zyv15, zyv146, zyv147, zyv148])
noncomputable def zyr103 : List zC := [zyc46, zyc46, zyc47, zyc48, zyc10, zyc11, zyc10, zyc12, zyc49, zyc14, zyc15, zyc50, zyc14, zyc15, zyc161, zyc52]
noncomputable def zyh98 : zH := (126, [zyr0, zyr1, zyr2, zyr3, zyr4, zyr103, zyr23, zyr7], zym7)
def zyv248 : zAV := .inl ((.ofNat 40, .ofNat 76), none)
noncomputable def zyc162 : zC := .inr (8, [zyv114, zyv26, zyv27, zyv101, zyv115, zyv116, zyv117, zyv118, zyv126, zyv119, zyv25, zyv126, zyv118, zyv17, zyv165, zyv248, zyv166, zyv123, zyv124, zyv125, zyv35, zyv126, zyv127, zyv128, zyv13, zyv129, zyv130, zyv18, zyv18, zyv131, zyv132, zyv133, zyv134, zyv135, zyv136, zyv137, zyv138, zyv139, zyv140, zyv141, zyv142, zyv143, zyv144, zyv145, zyv15, zyv13, zyv15, zyv15, zyv146, zyv147, zyv148])
noncomputable def zyr104 : List zC := [zyc46, zyc46, zyc47, zyc48, zyc10, zyc11, zyc10, zyc12, zyc49, zyc14, zyc15, zyc50, zyc14, zyc15, zyc162, zyc52]
noncomputable def zyh99 : zH := (126, [zyr0, zyr1, zyr2, zyr3, zyr4, zyr104, zyr23, zyr7], zym7)
def zyv249 : zAV := .inl ((.ofNat 41, .ofNat 75), none)
noncomputable def zyc163 : zC := .inr (8, [zyv114, zyv26, zyv27, zyv101, zyv115, zyv116, zyv117, zyv118, zyv126, zyv119, zyv25, zyv126, zyv118, zyv17, zyv165, zyv249, zyv249, zyv123, zyv124, zyv125, zyv35, zyv126, zyv127, zyv128, zyv13, zyv129, zyv130, zyv18, zyv18, zyv131, zyv132, zyv133, zyv134, zyv135, zyv136, zyv137, zyv138, zyv139, zyv140, zyv141, zyv142, zyv143, zyv144, zyv145, zyv15, zyv13, zyv15, zyv15, zyv146, zyv147, zyv148])
noncomputable def zyr105 : List zC := [zyc46, zyc46, zyc47, zyc48, zyc10, zyc11, zyc10, zyc12, zyc49, zyc14, zyc15, zyc50, zyc14, zyc15, zyc163, zyc52]
noncomputable def zyh100 : zH := (126, [zyr0, zyr1, zyr2, zyr3, zyr4, zyr105, zyr23, zyr7], zym7)
def zyv250 : zAV := .inl ((.ofNat 41, .ofNat 76), none)
noncomputable def zyc164 : zC := .inr (8, [zyv114, zyv26, zyv27, zyv101, zyv115, zyv116, zyv117, zyv118, zyv126, zyv119, zyv25, zyv126, zyv118, zyv17, zyv165, zyv250, zyv166, zyv123, zyv124, zyv125, zyv35, zyv126, zyv127, zyv128, zyv13, zyv129, zyv130, zyv18, zyv18, zyv131, zyv132, zyv133, zyv134, zyv135, zyv136, zyv137, zyv138, zyv139, zyv140, zyv141, zyv142, zyv143, zyv144, zyv145, zyv15, zyv13, zyv15, zyv15, zyv146, zyv147, zyv148])
noncomputable def zyr106 : List zC := [zyc46, zyc46, zyc47, zyc48, zyc10, zyc11, zyc10, zyc12, zyc49, zyc14, zyc15, zyc50, zyc14, zyc15, zyc164, zyc52]
noncomputable def zyh101 : zH := (126, [zyr0, zyr1, zyr2, zyr3, zyr4, zyr106, zyr23, zyr7], zym7)
def zyv251 : zAV := .inl ((.ofNat 42, .ofNat 75), none)
noncomputable def zyc165 : zC := .inr (8, [zyv114, zyv26, zyv27, zyv101, zyv115, zyv116, zyv117, zyv118, zyv126, zyv119, zyv25, zyv126, zyv118, zyv17, zyv165, zyv251, zyv251, zyv123, zyv124, zyv125, zyv35, zyv126, zyv127, zyv128, zyv13, zyv129, zyv130, zyv18, zyv18, zyv131, zyv132, zyv133, zyv134, zyv135, zyv136, zyv137, zyv138, zyv139, zyv140, zyv141, zyv142, zyv143, zyv144, zyv145, zyv15, zyv13, zyv15, zyv15, zyv146, zyv147, zyv148])
noncomputable def zyr107 : List zC := [zyc46, zyc46, zyc47, zyc48, zyc10, zyc11, zyc10, zyc12, zyc49, zyc14, zyc15, zyc50, zyc14, zyc15, zyc165, zyc52]
noncomputable def zyh102 : zH := (126, [zyr0, zyr1, zyr2, zyr3, zyr4, zyr107, zyr23, zyr7], zym7)
def zyv252 : zAV := .inl ((.ofNat 42, .ofNat 76), none)
noncomputable def zyc166 : zC := .inr (8, [zyv114, zyv26, zyv27, zyv101, zyv115, zyv116, zyv117, zyv118, zyv126, zyv119, zyv25, zyv126, zyv118, zyv17, zyv165, zyv252, zyv166, zyv123, zyv124, zyv125, zyv35, zyv126, zyv127, zyv128, zyv13, zyv129, zyv130, zyv18, zyv18, zyv131, zyv132, zyv133, zyv134, zyv135, zyv136, zyv137, zyv138, zyv139, zyv140, zyv141, zyv142, zyv143, zyv144, zyv145, zyv15, zyv13, zyv15, zyv15, zyv146, zyv147, zyv148])
noncomputable def zyr108 : List zC := [zyc46, zyc46, zyc47, zyc48, zyc10, zyc11, zyc10, zyc12, zyc49, zyc14, zyc15, zyc50, zyc14, zyc15, zyc166, zyc52]
noncomputable def zyh103 : zH := (126, [zyr0, zyr1, zyr2, zyr3, zyr4, zyr108, zyr23, zyr7], zym7)
def zyv253 : zAV := .inl ((.ofNat 43, .ofNat 75), none)
noncomputable def zyc167 : zC := .inr (8, [zyv114, zyv26, zyv27, zyv101, zyv115, zyv116, zyv117, zyv118, zyv126, zyv119, zyv25, zyv126, zyv118, zyv17, zyv165, zyv253, zyv253, zyv123, zyv124, zyv125, zyv35, zyv126, zyv127, zyv128, zyv13, zyv129, zyv130, zyv18, zyv18, zyv131, zyv132, zyv133, zyv134, zyv135, zyv136, zyv137, zyv138, zyv139, zyv140, zyv141, zyv142, zyv143, zyv144, zyv145, zyv15, zyv13, zyv15, zyv15, zyv146, zyv147, zyv148])
noncomputable def zyr109 : List zC := [zyc46, zyc46, zyc47, zyc48, zyc10, zyc11, zyc10, zyc12, zyc49, zyc14, zyc15, zyc50, zyc14, zyc15, zyc167, zyc52]
noncomputable def zyh104 : zH := (126, [zyr0, zyr1, zyr2, zyr3, zyr4, zyr109, zyr23, zyr7], zym7)
def zyv254 : zAV := .inl ((.ofNat 43, .ofNat 76), none)
noncomputable def zyc168 : zC := .inr (8, [zyv114, zyv26, zyv27, zyv101, zyv115, zyv116, zyv117, zyv118, zyv126, zyv119, zyv25, zyv126, zyv118, zyv17, zyv165, zyv254, zyv166, zyv123, zyv124, zyv125, zyv35, zyv126, zyv127, zyv128, zyv13, zyv129, zyv130, zyv18, zyv18, zyv131, zyv132, zyv133, zyv134, zyv135, zyv136, zyv137, zyv138, zyv139, zyv140, zyv141, zyv142, zyv143, zyv144, zyv145, zyv15, zyv13, zyv15, zyv15, zyv146, zyv147, zyv148])
noncomputable def zyr110 : List zC := [zyc46, zyc46, zyc47, zyc48, zyc10, zyc11, zyc10, zyc12, zyc49, zyc14, zyc15, zyc50, zyc14, zyc15, zyc168, zyc52]
noncomputable def zyh105 : zH := (126, [zyr0, zyr1, zyr2, zyr3, zyr4, zyr110, zyr23, zyr7], zym7)
def zyv255 : zAV := .inl ((.ofNat 44, .ofNat 75), none)
noncomputable def zyc169 : zC := .inr (8, [zyv114, zyv26, zyv27, zyv101, zyv115, zyv116, zyv117, zyv118, zyv126, zyv119, zyv25, zyv126, zyv118, zyv17, zyv165, zyv255, zyv255, zyv123, zyv124, zyv125, zyv35, zyv126, zyv127, zyv128, zyv13, zyv129, zyv130, zyv18, zyv18, zyv131, zyv132, zyv133, zyv134, zyv135, zyv136, zyv137, zyv138, zyv139, zyv140, zyv141, zyv142, zyv143, zyv144, zyv145, zyv15, zyv13, zyv15, zyv15, zyv146, zyv147, zyv148])
noncomputable def zyr111 : List zC := [zyc46, zyc46, zyc47, zyc48, zyc10, zyc11, zyc10, zyc12, zyc49, zyc14, zyc15, zyc50, zyc14, zyc15, zyc169, zyc52]
noncomputable def zyh106 : zH := (126, [zyr0, zyr1, zyr2, zyr3, zyr4, zyr111, zyr23, zyr7], zym7)
def zyv256 : zAV := .inl ((.ofNat 44, .ofNat 76), none)
noncomputable def zyc170 : zC := .inr (8, [zyv114, zyv26, zyv27, zyv101, zyv115, zyv116, zyv117, zyv118, zyv126, zyv119, zyv25, zyv126, zyv118, zyv17, zyv165, zyv256, zyv166, zyv123, zyv124, zyv125, zyv35, zyv126, zyv127, zyv128, zyv13, zyv129, zyv130, zyv18, zyv18, zyv131, zyv132, zyv133, zyv134, zyv135, zyv136, zyv137, zyv138, zyv139, zyv140, zyv141, zyv142, zyv143, zyv144, zyv145, zyv15, zyv13, zyv15, zyv15, zyv146, zyv147, zyv148])
noncomputable def zyr112 : List zC := [zyc46, zyc46, zyc47, zyc48, zyc10, zyc11, zyc10, zyc12, zyc49, zyc14, zyc15, zyc50, zyc14, zyc15, zyc170, zyc52]
noncomputable def zyh107 : zH := (126, [zyr0, zyr1, zyr2, zyr3, zyr4, zyr112, zyr23, zyr7], zym7)
def zyv257 : zAV := .inl ((.ofNat 45, .ofNat 75), none)
noncomputable def zyc171 : zC := .inr (8, [zyv114, zyv26, zyv27, zyv101, zyv115, zyv116, zyv117, zyv118, zyv126, zyv119, zyv25, zyv126, zyv118, zyv17, zyv165, zyv257, zyv257, zyv123, zyv124, zyv125, zyv35, zyv126, zyv127, zyv128, zyv13, zyv129, zyv130, zyv18, zyv18, zyv131, zyv132, zyv133, zyv134, zyv135, zyv136, zyv137, zyv138, zyv139, zyv140, zyv141, zyv142, zyv143, zyv144, zyv145, zyv15, zyv13, zyv15, zyv15, zyv146, zyv147, zyv148])
noncomputable def zyr113 : List zC := [zyc46, zyc46, zyc47, zyc48, zyc10, zyc11, zyc10, zyc12, zyc49, zyc14, zyc15, zyc50, zyc14, zyc15, zyc171, zyc52]
noncomputable def zyh108 : zH := (126, [zyr0, zyr1, zyr2, zyr3, zyr4, zyr113, zyr23, zyr7], zym7)
def zyv258 : zAV := .inl ((.ofNat 45, .ofNat 76), none)
noncomputable def zyc172 : zC := .inr (8, [zyv114, zyv26, zyv27, zyv101, zyv115, zyv116, zyv117, zyv118, zyv126, zyv119, zyv25, zyv126, zyv118, zyv17, zyv165, zyv258, zyv166, zyv123, zyv124, zyv125, zyv35, zyv126, zyv127, zyv128, zyv13, zyv129, zyv130, zyv18, zyv18, zyv131, zyv132, zyv133, zyv134, zyv135, zyv136, zyv137, zyv138, zyv139, zyv140, zyv141, zyv142, zyv143, zyv144, zyv145, zyv15, zyv13, zyv15, zyv15, zyv146, zyv147, zyv148])
noncomputable def zyr114 : List zC := [zyc46, zyc46, zyc47, zyc48, zyc10, zyc11, zyc10, zyc12, zyc49, zyc14, zyc15, zyc50, zyc14, zyc15, zyc172, zyc52]
noncomputable def zyh109 : zH := (126, [zyr0, zyr1, zyr2, zyr3, zyr4, zyr114, zyr23, zyr7], zym7)
def zyv259 : zAV := .inl ((.ofNat 46, .ofNat 75), none)
noncomputable def zyc173 : zC := .inr (8, [zyv114, zyv26, zyv27, zyv101, zyv115, zyv116, zyv117, zyv118, zyv126, zyv119, zyv25, zyv126, zyv118, zyv17, zyv165, zyv259, zyv259, zyv123, zyv124, zyv125, zyv35, zyv126, zyv127, zyv128, zyv13, zyv129, zyv130, zyv18, zyv18, zyv131, zyv132, zyv133, zyv134, zyv135, zyv136, zyv137, zyv138, zyv139, zyv140, zyv141, zyv142, zyv143, zyv144, zyv145, zyv15, zyv13, zyv15, zyv15, zyv146, zyv147, zyv148])
noncomputable def zyr115 : List zC := [zyc46, zyc46, zyc47, zyc48, zyc10, zyc11, zyc10, zyc12, zyc49, zyc14, zyc15, zyc50, zyc14, zyc15, zyc173, zyc52]
noncomputable def zyh110 : zH := (126, [zyr0, zyr1, zyr2, zyr3, zyr4, zyr115, zyr23, zyr7], zym7)
def zyv260 : zAV := .inl ((.ofNat 46, .ofNat 76), none)
noncomputable def zyc174 : zC := .inr (8, [zyv114, zyv26, zyv27, zyv101, zyv115, zyv116, zyv117, zyv118, zyv126, zyv119, zyv25, zyv126, zyv118, zyv17, zyv165, zyv260, zyv166, zyv123, zyv124, zyv125, zyv35, zyv126, zyv127, zyv128, zyv13, zyv129, zyv130, zyv18, zyv18, zyv131, zyv132, zyv133, zyv134, zyv135, zyv136, zyv137, zyv138, zyv139, zyv140, zyv141, zyv142, zyv143, zyv144, zyv145, zyv15, zyv13, zyv15, zyv15, zyv146, zyv147, zyv148])
noncomputable def zyr116 : List zC := [zyc46, zyc46, zyc47, zyc48, zyc10, zyc11, zyc10, zyc12, zyc49, zyc14, zyc15, zyc50, zyc14, zyc15, zyc174, zyc52]
noncomputable def zyh111 : zH := (126, [zyr0, zyr1, zyr2, zyr3, zyr4, zyr116, zyr23, zyr7], zym7)
def zyv261 : zAV := .inl ((.ofNat 47, .ofNat 75), none)
noncomputable def zyc175 : zC := .inr (8, [zyv114, zyv26, zyv27, zyv101, zyv115, zyv116, zyv117, zyv118, zyv126, zyv119, zyv25, zyv126, zyv118, zyv17, zyv165, zyv261, zyv261, zyv123, zyv124, zyv125, zyv35, zyv126, zyv127, zyv128, zyv13, zyv129, zyv130, zyv18, zyv18, zyv131, zyv132, zyv133, zyv134, zyv135, zyv136, zyv137, zyv138, zyv139, zyv140, zyv141, zyv142, zyv143, zyv144, zyv145, zyv15, zyv13, zyv15, zyv15, zyv146, zyv147, zyv148])
noncomputable def zyr117 : List zC := [zyc46, zyc46, zyc47, zyc48, zyc10, zyc11, zyc10, zyc12, zyc49, zyc14, zyc15, zyc50, zyc14, zyc15, zyc175, zyc52]
noncomputable def zyh112 : zH := (126, [zyr0, zyr1, zyr2, zyr3, zyr4, zyr117, zyr23, zyr7], zym7)
def zyv262 : zAV := .inl ((.ofNat 47, .ofNat 76), none)
noncomputable def zyc176 : zC := .inr (8, [zyv114, zyv26, zyv27, zyv101, zyv115, zyv116, zyv117, zyv118, zyv126, zyv119, zyv25, zyv126, zyv118, zyv17, zyv165, zyv262, zyv166, zyv123, zyv124, zyv125, zyv35, zyv126, zyv127, zyv128, zyv13, zyv129, zyv130, zyv18, zyv18, zyv131, zyv132, zyv133, zyv134, zyv135, zyv136, zyv137, zyv138, zyv139, zyv140, zyv141, zyv142, zyv143, zyv144, zyv145, zyv15, zyv13, zyv15, zyv15, zyv146, zyv147, zyv148])
noncomputable def zyr118 : List zC := [zyc46, zyc46, zyc47, zyc48, zyc10, zyc11, zyc10, zyc12, zyc49, zyc14, zyc15, zyc50, zyc14, zyc15, zyc176, zyc52]
noncomputable def zyh113 : zH := (126, [zyr0, zyr1, zyr2, zyr3, zyr4, zyr118, zyr23, zyr7], zym7)
def zyv263 : zAV := .inl ((.ofNat 48, .ofNat 75), none)
noncomputable def zyc177 : zC := .inr (8, [zyv114, zyv26, zyv27, zyv101, zyv115, zyv116, zyv117, zyv118, zyv126, zyv119, zyv25, zyv126, zyv118, zyv17, zyv165, zyv263, zyv263, zyv123, zyv124, zyv125, zyv35, zyv126, zyv127, zyv128, zyv13, zyv129, zyv130, zyv18, zyv18, zyv131, zyv132, zyv133, zyv134, zyv135, zyv136, zyv137, zyv138, zyv139, zyv140, zyv141, zyv142, zyv143, zyv144, zyv145, zyv15, zyv13, zyv15, zyv15, zyv146, zyv147, zyv148])
noncomputable def zyr119 : List zC := [zyc46, zyc46, zyc47, zyc48, zyc10, zyc11, zyc10, zyc12, zyc49, zyc14, zyc15, zyc50, zyc14, zyc15, zyc177, zyc52]
noncomputable def zyh114 : zH := (126, [zyr0, zyr1, zyr2, zyr3, zyr4, zyr119, zyr23, zyr7], zym7)
def zyv264 : zAV := .inl ((.ofNat 48, .ofNat 76), none)
noncomputable def zyc178 : zC := .inr (8, [zyv114, zyv26, zyv27, zyv101, zyv115, zyv116, zyv117, zyv118, zyv126, zyv119, zyv25, zyv126, zyv118, zyv17, zyv165, zyv264, zyv166, zyv123, zyv124, zyv125, zyv35, zyv126, zyv127, zyv128, zyv13, zyv129, zyv130, zyv18, zyv18, zyv131, zyv132, zyv133, zyv134, zyv135, zyv136, zyv137, zyv138, zyv139, zyv140, zyv141, zyv142, zyv143, zyv144, zyv145, zyv15, zyv13, zyv15, zyv15, zyv146, zyv147, zyv148])
noncomputable def zyr120 : List zC := [zyc46, zyc46, zyc47, zyc48, zyc10, zyc11, zyc10, zyc12, zyc49, zyc14, zyc15, zyc50, zyc14, zyc15, zyc178, zyc52]
noncomputable def zyh115 : zH := (126, [zyr0, zyr1, zyr2, zyr3, zyr4, zyr120, zyr23, zyr7], zym7)
def zyv265 : zAV := .inl ((.ofNat 49, .ofNat 75), none)
noncomputable def zyc179 : zC := .inr (8, [zyv114, zyv26, zyv27, zyv101, zyv115, zyv116, zyv117, zyv118, zyv126, zyv119, zyv25, zyv126, zyv118, zyv17, zyv165, zyv265, zyv265, zyv123, zyv124, zyv125, zyv35, zyv126, zyv127, zyv128, zyv13, zyv129, zyv130, zyv18, zyv18, zyv131, zyv132, zyv133, zyv134, zyv135, zyv136, zyv137, zyv138, zyv139, zyv140, zyv141, zyv142, zyv143, zyv144, zyv145, zyv15, zyv13, zyv15, zyv15, zyv146, zyv147, zyv148])
noncomputable def zyr121 : List zC := [zyc46, zyc46, zyc47, zyc48, zyc10, zyc11, zyc10, zyc12, zyc49, zyc14, zyc15, zyc50, zyc14, zyc15, zyc179, zyc52]
noncomputable def zyh116 : zH := (126, [zyr0, zyr1, zyr2, zyr3, zyr4, zyr121, zyr23, zyr7], zym7)
def zyv266 : zAV := .inl ((.ofNat 49, .ofNat 76), none)
noncomputable def zyc180 : zC := .inr (8, [zyv114, zyv26, zyv27, zyv101, zyv115, zyv116, zyv117, zyv118, zyv126, zyv119, zyv25, zyv126, zyv118, zyv17, zyv165, zyv266, zyv166, zyv123, zyv124, zyv125, zyv35, zyv126, zyv127, zyv128, zyv13, zyv129, zyv130, zyv18, zyv18, zyv131, zyv132, zyv133, zyv134, zyv135, zyv136, zyv137, zyv138, zyv139, zyv140, zyv141, zyv142, zyv143, zyv144, zyv145, zyv15, zyv13, zyv15, zyv15, zyv146, zyv147, zyv148])
noncomputable def zyr122 : List zC := [zyc46, zyc46, zyc47, zyc48, zyc10, zyc11, zyc10, zyc12, zyc49, zyc14, zyc15, zyc50, zyc14, zyc15, zyc180, zyc52]
noncomputable def zyh117 : zH := (126, [zyr0, zyr1, zyr2, zyr3, zyr4, zyr122, zyr23, zyr7], zym7)
def zyv267 : zAV := .inl ((.ofNat 50, .ofNat 75), none)
noncomputable def zyc181 : zC := .inr (8, [zyv114, zyv26, zyv27, zyv101, zyv115, zyv116, zyv117, zyv118, zyv126, zyv119, zyv25, zyv126, zyv118, zyv17, zyv165, zyv267, zyv267, zyv123, zyv124, zyv125, zyv35, zyv126, zyv127, zyv128, zyv13, zyv129, zyv130, zyv18, zyv18, zyv131, zyv132, zyv133, zyv134, zyv135, zyv136, zyv137, zyv138, zyv139, zyv140, zyv141, zyv142, zyv143, zyv144, zyv145, zyv15, zyv13, zyv15, zyv15, zyv146, zyv147, zyv148])
noncomputable def zyr123 : List zC := [zyc46, zyc46, zyc47, zyc48, zyc10, zyc11, zyc10, zyc12, zyc49, zyc14, zyc15, zyc50, zyc14, zyc15, zyc181, zyc52]
noncomputable def zyh118 : zH := (126, [zyr0, zyr1, zyr2, zyr3, zyr4, zyr123, zyr23, zyr7], zym7)
def zyv268 : zAV := .inl ((.ofNat 50, .ofNat 76), none)
noncomputable def zyc182 : zC := .inr (8, [zyv114, zyv26, zyv27, zyv101, zyv115, zyv116, zyv117, zyv118, zyv126, zyv119, zyv25, zyv126, zyv118, zyv17, zyv165, zyv268, zyv166, zyv123, zyv124, zyv125, zyv35, zyv126, zyv127, zyv128, zyv13, zyv129, zyv130, zyv18, zyv18, zyv131, zyv132, zyv133, zyv134, zyv135, zyv136, zyv137, zyv138, zyv139, zyv140, zyv141, zyv142, zyv143, zyv144, zyv145, zyv15, zyv13, zyv15, zyv15, zyv146, zyv147, zyv148])
noncomputable def zyr124 : List zC := [zyc46, zyc46, zyc47, zyc48, zyc10, zyc11, zyc10, zyc12, zyc49, zyc14, zyc15, zyc50, zyc14, zyc15, zyc182, zyc52]
noncomputable def zyh119 : zH := (126, [zyr0, zyr1, zyr2, zyr3, zyr4, zyr124, zyr23, zyr7], zym7)
def zyv269 : zAV := .inl ((.ofNat 51, .ofNat 75), none)
noncomputable def zyc183 : zC := .inr (8, [zyv114, zyv26, zyv27, zyv101, zyv115, zyv116, zyv117, zyv118, zyv126, zyv119, zyv25, zyv126, zyv118, zyv17, zyv165, zyv269, zyv269, zyv123, zyv124, zyv125, zyv35, zyv126, zyv127, zyv128, zyv13, zyv129, zyv130, zyv18, zyv18, zyv131, zyv132, zyv133, zyv134, zyv135, zyv136, zyv137, zyv138, zyv139, zyv140, zyv141, zyv142, zyv143, zyv144, zyv145, zyv15, zyv13, zyv15, zyv15, zyv146, zyv147, zyv148])
noncomputable def zyr125 : List zC := [zyc46, zyc46, zyc47, zyc48, zyc10, zyc11, zyc10, zyc12, zyc49, zyc14, zyc15, zyc50, zyc14, zyc15, zyc183, zyc52]
noncomputable def zyh120 : zH := (126, [zyr0, zyr1, zyr2, zyr3, zyr4, zyr125, zyr23, zyr7], zym7)
def zyv270 : zAV := .inl ((.ofNat 51, .ofNat 76), none)
noncomputable def zyc184 : zC := .inr (8, [zyv114, zyv26, zyv27, zyv101, zyv115, zyv116, zyv117, zyv118, zyv126, zyv119, zyv25, zyv126, zyv118, zyv17, zyv165, zyv270, zyv166, zyv123, zyv124, zyv125, zyv35, zyv126, zyv127, zyv128, zyv13, zyv129, zyv130, zyv18, zyv18, zyv131, zyv132, zyv133, zyv134, zyv135, zyv136, zyv137, zyv138, zyv139, zyv140, zyv141, zyv142, zyv143, zyv144, zyv145, zyv15, zyv13, zyv15, zyv15, zyv146, zyv147, zyv148])
noncomputable def zyr126 : List zC := [zyc46, zyc46, zyc47, zyc48, zyc10, zyc11, zyc10, zyc12, zyc49, zyc14, zyc15, zyc50, zyc14, zyc15, zyc184, zyc52]
noncomputable def zyh121 : zH := (126, [zyr0, zyr1, zyr2, zyr3, zyr4, zyr126, zyr23, zyr7], zym7)
def zyv271 : zAV := .inl ((.ofNat 52, .ofNat 75), none)
noncomputable def zyc185 : zC := .inr (8, [zyv114, zyv26, zyv27, zyv101, zyv115, zyv116, zyv117, zyv118, zyv126, zyv119, zyv25, zyv126, zyv118, zyv17, zyv165, zyv271, zyv271, zyv123, zyv124, zyv125, zyv35, zyv126, zyv127, zyv128, zyv13, zyv129, zyv130, zyv18, zyv18, zyv131, zyv132, zyv133, zyv134, zyv135, zyv136, zyv137, zyv138, zyv139, zyv140, zyv141, zyv142, zyv143, zyv144, zyv145, zyv15, zyv13, zyv15, zyv15, zyv146, zyv147, zyv148])
noncomputable def zyr127 : List zC := [zyc46, zyc46, zyc47, zyc48, zyc10, zyc11, zyc10, zyc12, zyc49, zyc14, zyc15, zyc50, zyc14, zyc15, zyc185, zyc52]
noncomputable def zyh122 : zH := (126, [zyr0, zyr1, zyr2, zyr3, zyr4, zyr127, zyr23, zyr7], zym7)
def zyv272 : zAV := .inl ((.ofNat 52, .ofNat 76), none)
noncomputable def zyc186 : zC := .inr (8, [zyv114, zyv26, zyv27, zyv101, zyv115, zyv116, zyv117, zyv118, zyv126, zyv119, zyv25, zyv126, zyv118, zyv17, zyv165, zyv272, zyv166, zyv123, zyv124, zyv125, zyv35, zyv126, zyv127, zyv128, zyv13, zyv129, zyv130, zyv18, zyv18, zyv131, zyv132, zyv133, zyv134, zyv135, zyv136, zyv137, zyv138, zyv139, zyv140, zyv141, zyv142, zyv143, zyv144, zyv145, zyv15, zyv13, zyv15, zyv15, zyv146, zyv147, zyv148])
noncomputable def zyr128 : List zC := [zyc46, zyc46, zyc47, zyc48, zyc10, zyc11, zyc10, zyc12, zyc49, zyc14, zyc15, zyc50, zyc14, zyc15, zyc186, zyc52]
noncomputable def zyh123 : zH := (126, [zyr0, zyr1, zyr2, zyr3, zyr4, zyr128, zyr23, zyr7], zym7)
def zyv273 : zAV := .inl ((.ofNat 53, .ofNat 75), none)
noncomputable def zyc187 : zC := .inr (8, [zyv114, zyv26, zyv27, zyv101, zyv115, zyv116, zyv117, zyv118, zyv126, zyv119, zyv25, zyv126, zyv118, zyv17, zyv165, zyv273, zyv273, zyv123, zyv124, zyv125, zyv35, zyv126, zyv127, zyv128, zyv13, zyv129, zyv130, zyv18, zyv18, zyv131, zyv132, zyv133, zyv134, zyv135, zyv136, zyv137, zyv138, zyv139, zyv140, zyv141, zyv142, zyv143, zyv144, zyv145, zyv15, zyv13, zyv15, zyv15, zyv146, zyv147, zyv148])
noncomputable def zyr129 : List zC := [zyc46, zyc46, zyc47, zyc48, zyc10, zyc11, zyc10, zyc12, zyc49, zyc14, zyc15, zyc50, zyc14, zyc15, zyc187, zyc52]
noncomputable def zyh124 : zH := (126, [zyr0, zyr1, zyr2, zyr3, zyr4, zyr129, zyr23, zyr7], zym7)
def zyv274 : zAV := .inl ((.ofNat 53, .ofNat 76), none)
noncomputable def zyc188 : zC := .inr (8, [zyv114, zyv26, zyv27, zyv101, zyv115, zyv116, zyv117, zyv118, zyv126, zyv119, zyv25, zyv126, zyv118, zyv17, zyv165, zyv274, zyv166, zyv123, zyv124, zyv125, zyv35, zyv126, zyv127, zyv128, zyv13, zyv129, zyv130, zyv18, zyv18, zyv131, zyv132, zyv133, zyv134, zyv135, zyv136, zyv137, zyv138, zyv139, zyv140, zyv141, zyv142, zyv143, zyv144, zyv145, zyv15, zyv13, zyv15, zyv15, zyv146, zyv147, zyv148])
noncomputable def zyr130 : List zC := [zyc46, zyc46, zyc47, zyc48, zyc10, zyc11, zyc10, zyc12, zyc49, zyc14, zyc15, zyc50, zyc14, zyc15, zyc188, zyc52]
noncomputable def zyh125 : zH := (126, [zyr0, zyr1, zyr2, zyr3, zyr4, zyr130, zyr23, zyr7], zym7)
def zyv275 : zAV := .inl ((.ofNat 54, .ofNat 75), none)
noncomputable def zyc189 : zC := .inr (8, [zyv114, zyv26, zyv27, zyv101, zyv115, zyv116, zyv117, zyv118, zyv126, zyv119, zyv25, zyv126, zyv118, zyv17, zyv165, zyv275, zyv275, zyv123, zyv124, zyv125, zyv35, zyv126, zyv127, zyv128, zyv13, zyv129, zyv130, zyv18, zyv18, zyv131, zyv132, zyv133, zyv134, zyv135, zyv136, zyv137, zyv138, zyv139, zyv140, zyv141, zyv142, zyv143, zyv144, zyv145, zyv15, zyv13, zyv15, zyv15, zyv146, zyv147, zyv148])
noncomputable def zyr131 : List zC := [zyc46, zyc46, zyc47, zyc48, zyc10, zyc11, zyc10, zyc12, zyc49, zyc14, zyc15, zyc50, zyc14, zyc15, zyc189, zyc52]
noncomputable def zyh126 : zH := (126, [zyr0, zyr1, zyr2, zyr3, zyr4, zyr131, zyr23, zyr7], zym7)
def zyv276 : zAV := .inl ((.ofNat 54, .ofNat 76), none)
noncomputable def zyc190 : zC := .inr (8, [zyv114, zyv26, zyv27, zyv101, zyv115, zyv116, zyv117, zyv118, zyv126, zyv119, zyv25, zyv126, zyv118, zyv17, zyv165, zyv276, zyv166, zyv123, zyv124, zyv125, zyv35, zyv126, zyv127, zyv128, zyv13, zyv129, zyv130, zyv18, zyv18, zyv131, zyv132, zyv133, zyv134, zyv135, zyv136, zyv137, zyv138, zyv139, zyv140, zyv141, zyv142, zyv143, zyv144, zyv145, zyv15, zyv13, zyv15, zyv15, zyv146, zyv147, zyv148])
noncomputable def zyr132 : List zC := [zyc46, zyc46, zyc47, zyc48, zyc10, zyc11, zyc10, zyc12, zyc49, zyc14, zyc15, zyc50, zyc14, zyc15, zyc190, zyc52]
noncomputable def zyh127 : zH := (126, [zyr0, zyr1, zyr2, zyr3, zyr4, zyr132, zyr23, zyr7], zym7)
def zyv277 : zAV := .inl ((.ofNat 55, .ofNat 75), none)
noncomputable def zyc191 : zC := .inr (8, [zyv114, zyv26, zyv27, zyv101, zyv115, zyv116, zyv117, zyv118, zyv126, zyv119, zyv25, zyv126, zyv118, zyv17, zyv165, zyv277, zyv277, zyv123, zyv124, zyv125, zyv35, zyv126, zyv127, zyv128, zyv13, zyv129, zyv130, zyv18, zyv18, zyv131, zyv132, zyv133, zyv134, zyv135, zyv136, zyv137, zyv138, zyv139, zyv140, zyv141, zyv142, zyv143, zyv144, zyv145, zyv15, zyv13, zyv15, zyv15, zyv146, zyv147, zyv148])
noncomputable def zyr133 : List zC := [zyc46, zyc46, zyc47, zyc48, zyc10, zyc11, zyc10, zyc12, zyc49, zyc14, zyc15, zyc50, zyc14, zyc15, zyc191, zyc52]
noncomputable def zyh128 : zH := (126, [zyr0, zyr1, zyr2, zyr3, zyr4, zyr133, zyr23, zyr7], zym7)
def zyv278 : zAV := .inl ((.ofNat 55, .ofNat 76), none)
noncomputable def zyc192 : zC := .inr (8, [zyv114, zyv26, zyv27, zyv101, zyv115, zyv116, zyv117, zyv118, zyv126, zyv119, zyv25, zyv126, zyv118, zyv17, zyv165, zyv278, zyv166, zyv123, zyv124, zyv125, zyv35, zyv126, zyv127, zyv128, zyv13, zyv129, zyv130, zyv18, zyv18, zyv131, zyv132, zyv133, zyv134, zyv135, zyv136, zyv137, zyv138, zyv139, zyv140, zyv141, zyv142, zyv143, zyv144, zyv145, zyv15, zyv13, zyv15, zyv15, zyv146, zyv147, zyv148])
noncomputable def zyr134 : List zC := [zyc46, zyc46, zyc47, zyc48, zyc10, zyc11, zyc10, zyc12, zyc49, zyc14, zyc15, zyc50, zyc14, zyc15, zyc192, zyc52]
noncomputable def zyh129 : zH := (126, [zyr0, zyr1, zyr2, zyr3, zyr4, zyr134, zyr23, zyr7], zym7)
def zyv279 : zAV := .inl ((.ofNat 56, .ofNat 75), none)
noncomputable def zyc193 : zC := .inr (8, [zyv114, zyv26, zyv27, zyv101, zyv115, zyv116, zyv117, zyv118, zyv126, zyv119, zyv25, zyv126, zyv118, zyv17, zyv165, zyv279, zyv279, zyv123, zyv124, zyv125, zyv35, zyv126, zyv127, zyv128, zyv13, zyv129, zyv130, zyv18, zyv18, zyv131, zyv132, zyv133, zyv134, zyv135, zyv136, zyv137, zyv138, zyv139, zyv140, zyv141, zyv142, zyv143, zyv144, zyv145, zyv15, zyv13, zyv15, zyv15, zyv146, zyv147, zyv148])
noncomputable def zyr135 : List zC := [zyc46, zyc46, zyc47, zyc48, zyc10, zyc11, zyc10, zyc12, zyc49, zyc14, zyc15, zyc50, zyc14, zyc15, zyc193, zyc52]
noncomputable def zyh130 : zH := (126, [zyr0, zyr1, zyr2, zyr3, zyr4, zyr135, zyr23, zyr7], zym7)
def zyv280 : zAV := .inl ((.ofNat 56, .ofNat 76), none)
noncomputable def zyc194 : zC := .inr (8, [zyv114, zyv26, zyv27, zyv101, zyv115, zyv116, zyv117, zyv118, zyv126, zyv119, zyv25, zyv126, zyv118, zyv17, zyv165, zyv280, zyv166, zyv123, zyv124, zyv125, zyv35, zyv126, zyv127, zyv128, zyv13, zyv129, zyv130, zyv18, zyv18, zyv131, zyv132, zyv133, zyv134, zyv135, zyv136, zyv137, zyv138, zyv139, zyv140, zyv141, zyv142, zyv143, zyv144, zyv145, zyv15, zyv13, zyv15, zyv15, zyv146, zyv147, zyv148])
noncomputable def zyr136 : List zC := [zyc46, zyc46, zyc47, zyc48, zyc10, zyc11, zyc10, zyc12, zyc49, zyc14, zyc15, zyc50, zyc14, zyc15, zyc194, zyc52]
noncomputable def zyh131 : zH := (126, [zyr0, zyr1, zyr2, zyr3, zyr4, zyr136, zyr23, zyr7], zym7)
def zyv281 : zAV := .inl ((.ofNat 57, .ofNat 75), none)
noncomputable def zyc195 : zC := .inr (8, [zyv114, zyv26, zyv27, zyv101, zyv115, zyv116, zyv117, zyv118, zyv126, zyv119, zyv25, zyv126, zyv118, zyv17, zyv165, zyv281, zyv281, zyv123, zyv124, zyv125, zyv35, zyv126, zyv127, zyv128, zyv13, zyv129, zyv130, zyv18, zyv18, zyv131, zyv132, zyv133, zyv134, zyv135, zyv136, zyv137, zyv138, zyv139, zyv140, zyv141, zyv142, zyv143, zyv144, zyv145, zyv15, zyv13, zyv15, zyv15, zyv146, zyv147, zyv148])
noncomputable def zyr137 : List zC := [zyc46, zyc46, zyc47, zyc48, zyc10, zyc11, zyc10, zyc12, zyc49, zyc14, zyc15, zyc50, zyc14, zyc15, zyc195, zyc52]
noncomputable def zyh132 : zH := (126, [zyr0, zyr1, zyr2, zyr3, zyr4, zyr137, zyr23, zyr7], zym7)
def zyv282 : zAV := .inl ((.ofNat 57, .ofNat 76), none)
noncomputable def zyc196 : zC := .inr (8, [zyv114, zyv26, zyv27, zyv101, zyv115, zyv116, zyv117, zyv118, zyv126, zyv119, zyv25, zyv126, zyv118, zyv17, zyv165, zyv282, zyv166, zyv123, zyv124, zyv125, zyv35, zyv126, zyv127, zyv128, zyv13, zyv129, zyv130, zyv18, zyv18, zyv131, zyv132, zyv133, zyv134, zyv135, zyv136, zyv137, zyv138, zyv139, zyv140, zyv141, zyv142, zyv143, zyv144, zyv145, zyv15, zyv13, zyv15, zyv15, zyv146, zyv147, zyv148])
noncomputable def zyr138 : List zC := [zyc46, zyc46, zyc47, zyc48, zyc10, zyc11, zyc10, zyc12, zyc49, zyc14, zyc15, zyc50, zyc14, zyc15, zyc196, zyc52]
noncomputable def zyh133 : zH := (126, [zyr0, zyr1, zyr2, zyr3, zyr4, zyr138, zyr23, zyr7], zym7)
def zyv283 : zAV := .inl ((.ofNat 58, .ofNat 75), none)
noncomputable def zyc197 : zC := .inr (8, [zyv114, zyv26, zyv27, zyv101, zyv115, zyv116, zyv117, zyv118, zyv126, zyv119, zyv25, zyv126, zyv118, zyv17, zyv165, zyv283, zyv283, zyv123, zyv124, zyv125, zyv35, zyv126, zyv127, zyv128, zyv13, zyv129, zyv130, zyv18, zyv18, zyv131, zyv132, zyv133, zyv134, zyv135, zyv136, zyv137, zyv138, zyv139, zyv140, zyv141, zyv142, zyv143, zyv144, zyv145, zyv15, zyv13, zyv15, zyv15, zyv146, zyv147, zyv148])
noncomputable def zyr139 : List zC := [zyc46, zyc46, zyc47, zyc48, zyc10, zyc11, zyc10, zyc12, zyc49, zyc14, zyc15, zyc50, zyc14, zyc15, zyc197, zyc52]
noncomputable def zyh134 : zH := (126, [zyr0, zyr1, zyr2, zyr3, zyr4, zyr139, zyr23, zyr7], zym7)
def zyv284 : zAV := .inl ((.ofNat 58, .ofNat 76), none)
noncomputable def zyc198 : zC := .inr (8, [zyv114, zyv26, zyv27, zyv101, zyv115, zyv116, zyv117, zyv118, zyv126, zyv119, zyv25, zyv126, zyv118, zyv17, zyv165, zyv284, zyv166, zyv123, zyv124, zyv125, zyv35, zyv126, zyv127, zyv128, zyv13, zyv129, zyv130, zyv18, zyv18, zyv131, zyv132, zyv133, zyv134, zyv135, zyv136, zyv137, zyv138, zyv139, zyv140, zyv141, zyv142, zyv143, zyv144, zyv145, zyv15, zyv13, zyv15, zyv15, zyv146, zyv147, zyv148])
noncomputable def zyr140 : List zC := [zyc46, zyc46, zyc47, zyc48, zyc10, zyc11, zyc10, zyc12, zyc49, zyc14, zyc15, zyc50, zyc14, zyc15, zyc198, zyc52]
noncomputable def zyh135 : zH := (126, [zyr0, zyr1, zyr2, zyr3, zyr4, zyr140, zyr23, zyr7], zym7)
def zyv285 : zAV := .inl ((.ofNat 59, .ofNat 75), none)
noncomputable def zyc199 : zC := .inr (8, [zyv114, zyv26, zyv27, zyv101, zyv115, zyv116, zyv117, zyv118, zyv126, zyv119, zyv25, zyv126, zyv118, zyv17, zyv165, zyv285, zyv285, zyv123, zyv124, zyv125, zyv35, zyv126, zyv127, zyv128, zyv13, zyv129, zyv130, zyv18, zyv18, zyv131, zyv132, zyv133, zyv134, zyv135, zyv136, zyv137, zyv138, zyv139, zyv140, zyv141, zyv142, zyv143, zyv144, zyv145, zyv15, zyv13, zyv15, zyv15, zyv146, zyv147, zyv148])
noncomputable def zyr141 : List zC := [zyc46, zyc46, zyc47, zyc48, zyc10, zyc11, zyc10, zyc12, zyc49, zyc14, zyc15, zyc50, zyc14, zyc15, zyc199, zyc52]
noncomputable def zyh136 : zH := (126, [zyr0, zyr1, zyr2, zyr3, zyr4, zyr141, zyr23, zyr7], zym7)
def zyv286 : zAV := .inl ((.ofNat 59, .ofNat 76), none)
noncomputable def zyc200 : zC := .inr (8, [zyv114, zyv26, zyv27, zyv101, zyv115, zyv116, zyv117, zyv118, zyv126, zyv119, zyv25, zyv126, zyv118, zyv17, zyv165, zyv286, zyv166, zyv123, zyv124, zyv125, zyv35, zyv126, zyv127, zyv128, zyv13, zyv129, zyv130, zyv18, zyv18, zyv131, zyv132, zyv133, zyv134, zyv135, zyv136, zyv137, zyv138, zyv139, zyv140, zyv141, zyv142, zyv143, zyv144, zyv145, zyv15, zyv13, zyv15, zyv15, zyv146, zyv147, zyv148])
noncomputable def zyr142 : List zC := [zyc46, zyc46, zyc47, zyc48, zyc10, zyc11, zyc10, zyc12, zyc49, zyc14, zyc15, zyc50, zyc14, zyc15, zyc200, zyc52]
noncomputable def zyh137 : zH := (126, [zyr0, zyr1, zyr2, zyr3, zyr4, zyr142, zyr23, zyr7], zym7)
def zyv287 : zAV := .inl ((.ofNat 60, .ofNat 75), none)
noncomputable def zyc201 : zC := .inr (8, [zyv114, zyv26, zyv27, zyv101, zyv115, zyv116, zyv117, zyv118, zyv126, zyv119, zyv25, zyv126, zyv118, zyv17, zyv165, zyv287, zyv287, zyv123, zyv124, zyv125, zyv35, zyv126, zyv127, zyv128, zyv13, zyv129, zyv130, zyv18, zyv18, zyv131, zyv132, zyv133, zyv134, zyv135, zyv136, zyv137, zyv138, zyv139, zyv140, zyv141, zyv142, zyv143, zyv144, zyv145, zyv15, zyv13, zyv15, zyv15, zyv146, zyv147, zyv148])
noncomputable def zyr143 : List zC := [zyc46, zyc46, zyc47, zyc48, zyc10, zyc11, zyc10, zyc12, zyc49, zyc14, zyc15, zyc50, zyc14, zyc15, zyc201, zyc52]
noncomputable def zyh138 : zH := (126, [zyr0, zyr1, zyr2, zyr3, zyr4, zyr143, zyr23, zyr7], zym7)
def zyv288 : zAV := .inl ((.ofNat 60, .ofNat 76), none)
noncomputable def zyc202 : zC := .inr (8, [zyv114, zyv26, zyv27, zyv101, zyv115, zyv116, zyv117, zyv118, zyv126, zyv119, zyv25, zyv126, zyv118, zyv17, zyv165, zyv288, zyv166, zyv123, zyv124, zyv125, zyv35, zyv126, zyv127, zyv128, zyv13, zyv129, zyv130, zyv18, zyv18, zyv131, zyv132, zyv133, zyv134, zyv135, zyv136, zyv137, zyv138, zyv139, zyv140, zyv141, zyv142, zyv143, zyv144, zyv145, zyv15, zyv13, zyv15, zyv15, zyv146, zyv147, zyv148])
noncomputable def zyr144 : List zC := [zyc46, zyc46, zyc47, zyc48, zyc10, zyc11, zyc10, zyc12, zyc49, zyc14, zyc15, zyc50, zyc14, zyc15, zyc202, zyc52]
noncomputable def zyh139 : zH := (126, [zyr0, zyr1, zyr2, zyr3, zyr4, zyr144, zyr23, zyr7], zym7)
def zyv289 : zAV := .inl ((.ofNat 61, .ofNat 75), none)
noncomputable def zyc203 : zC := .inr (8, [zyv114, zyv26, zyv27, zyv101, zyv115, zyv116, zyv117, zyv118, zyv126, zyv119, zyv25, zyv126, zyv118, zyv17, zyv165, zyv289, zyv289, zyv123, zyv124, zyv125, zyv35, zyv126, zyv127, zyv128, zyv13, zyv129, zyv130, zyv18, zyv18, zyv131, zyv132, zyv133, zyv134, zyv135, zyv136, zyv137, zyv138, zyv139, zyv140, zyv141, zyv142, zyv143, zyv144, zyv145, zyv15, zyv13, zyv15, zyv15, zyv146, zyv147, zyv148])
noncomputable def zyr145 : List zC := [zyc46, zyc46, zyc47, zyc48, zyc10, zyc11, zyc10, zyc12, zyc49, zyc14, zyc15, zyc50, zyc14, zyc15, zyc203, zyc52]
noncomputable def zyh140 : zH := (126, [zyr0, zyr1, zyr2, zyr3, zyr4, zyr145, zyr23, zyr7], zym7)
def zyv290 : zAV := .inl ((.ofNat 61, .ofNat 76), none)
noncomputable def zyc204 : zC := .inr (8, [zyv114, zyv26, zyv27, zyv101, zyv115, zyv116, zyv117, zyv118, zyv126, zyv119, zyv25, zyv126, zyv118, zyv17, zyv165, zyv290, zyv166, zyv123, zyv124, zyv125, zyv35, zyv126, zyv127, zyv128, zyv13, zyv129, zyv130, zyv18, zyv18, zyv131, zyv132, zyv133, zyv134, zyv135, zyv136, zyv137, zyv138, zyv139, zyv140, zyv141, zyv142, zyv143, zyv144, zyv145, zyv15, zyv13, zyv15, zyv15, zyv146, zyv147, zyv148])
noncomputable def zyr146 : List zC := [zyc46, zyc46, zyc47, zyc48, zyc10, zyc11, zyc10, zyc12, zyc49, zyc14, zyc15, zyc50, zyc14, zyc15, zyc204, zyc52]
noncomputable def zyh141 : zH := (126, [zyr0, zyr1, zyr2, zyr3, zyr4, zyr146, zyr23, zyr7], zym7)
def zyv291 : zAV := .inl ((.ofNat 62, .ofNat 75), none)
noncomputable def zyc205 : zC := .inr (8, [zyv114, zyv26, zyv27, zyv101, zyv115, zyv116, zyv117, zyv118, zyv126, zyv119, zyv25, zyv126, zyv118, zyv17, zyv165, zyv291, zyv291, zyv123, zyv124, zyv125, zyv35, zyv126, zyv127, zyv128, zyv13, zyv129, zyv130, zyv18, zyv18, zyv131, zyv132, zyv133, zyv134, zyv135, zyv136, zyv137, zyv138, zyv139, zyv140, zyv141, zyv142, zyv143, zyv144, zyv145, zyv15, zyv13, zyv15, zyv15, zyv146, zyv147, zyv148])
noncomputable def zyr147 : List zC := [zyc46, zyc46, zyc47, zyc48, zyc10, zyc11, zyc10, zyc12, zyc49, zyc14, zyc15, zyc50, zyc14, zyc15, zyc205, zyc52]
noncomputable def zyh142 : zH := (126, [zyr0, zyr1, zyr2, zyr3, zyr4, zyr147, zyr23, zyr7], zym7)
def zyv292 : zAV := .inl ((.ofNat 62, .ofNat 76), none)
noncomputable def zyc206 : zC := .inr (8, [zyv114, zyv26, zyv27, zyv101, zyv115, zyv116, zyv117, zyv118, zyv126, zyv119, zyv25, zyv126, zyv118, zyv17, zyv165, zyv292, zyv166, zyv123, zyv124, zyv125, zyv35, zyv126, zyv127, zyv128, zyv13, zyv129, zyv130, zyv18, zyv18, zyv131, zyv132, zyv133, zyv134, zyv135, zyv136, zyv137, zyv138, zyv139, zyv140, zyv141, zyv142, zyv143, zyv144, zyv145, zyv15, zyv13, zyv15, zyv15, zyv146, zyv147, zyv148])
noncomputable def zyr148 : List zC := [zyc46, zyc46, zyc47, zyc48, zyc10, zyc11, zyc10, zyc12, zyc49, zyc14, zyc15, zyc50, zyc14, zyc15, zyc206, zyc52]
noncomputable def zyh143 : zH := (126, [zyr0, zyr1, zyr2, zyr3, zyr4, zyr148, zyr23, zyr7], zym7)
def zyv293 : zAV := .inl ((.ofNat 63, .ofNat 75), none)
noncomputable def zyc207 : zC := .inr (8, [zyv114, zyv26, zyv27, zyv101, zyv115, zyv116, zyv117, zyv118, zyv126, zyv119, zyv25, zyv126, zyv118, zyv17, zyv165, zyv293, zyv293, zyv123, zyv124, zyv125, zyv35, zyv126, zyv127, zyv128, zyv13, zyv129, zyv130, zyv18, zyv18, zyv131, zyv132, zyv133, zyv134, zyv135, zyv136, zyv137, zyv138, zyv139, zyv140, zyv141, zyv142, zyv143, zyv144, zyv145, zyv15, zyv13, zyv15, zyv15, zyv146, zyv147, zyv148])
noncomputable def zyr149 : List zC := [zyc46, zyc46, zyc47, zyc48, zyc10, zyc11, zyc10, zyc12, zyc49, zyc14, zyc15, zyc50, zyc14, zyc15, zyc207, zyc52]
noncomputable def zyh144 : zH := (126, [zyr0, zyr1, zyr2, zyr3, zyr4, zyr149, zyr23, zyr7], zym7)
def zyv294 : zAV := .inl ((.ofNat 63, .ofNat 76), none)
noncomputable def zyc208 : zC := .inr (8, [zyv114, zyv26, zyv27, zyv101, zyv115, zyv116, zyv117, zyv118, zyv126, zyv119, zyv25, zyv126, zyv118, zyv17, zyv165, zyv294, zyv166, zyv123, zyv124, zyv125, zyv35, zyv126, zyv127, zyv128, zyv13, zyv129, zyv130, zyv18, zyv18, zyv131, zyv132, zyv133, zyv134, zyv135, zyv136, zyv137, zyv138, zyv139, zyv140, zyv141, zyv142, zyv143, zyv144, zyv145, zyv15, zyv13, zyv15, zyv15, zyv146, zyv147, zyv148])
noncomputable def zyr150 : List zC := [zyc46, zyc46, zyc47, zyc48, zyc10, zyc11, zyc10, zyc12, zyc49, zyc14, zyc15, zyc50, zyc14, zyc15, zyc208, zyc52]
noncomputable def zyh145 : zH := (126, [zyr0, zyr1, zyr2, zyr3, zyr4, zyr150, zyr23, zyr7], zym7)
def zyv295 : zAV := .inl ((.ofNat 64, .ofNat 75), none)
noncomputable def zyc209 : zC := .inr (8, [zyv114, zyv26, zyv27, zyv101, zyv115, zyv116, zyv117, zyv118, zyv126, zyv119, zyv25, zyv126, zyv118, zyv17, zyv165, zyv295, zyv295, zyv123, zyv124, zyv125, zyv35, zyv126, zyv127, zyv128, zyv13, zyv129, zyv130, zyv18, zyv18, zyv131, zyv132, zyv133, zyv134, zyv135, zyv136, zyv137, zyv138, zyv139, zyv140, zyv141, zyv142, zyv143, zyv144, zyv145, zyv15, zyv13, zyv15, zyv15, zyv146, zyv147, zyv148])
noncomputable def zyr151 : List zC := [zyc46, zyc46, zyc47, zyc48, zyc10, zyc11, zyc10, zyc12, zyc49, zyc14, zyc15, zyc50, zyc14, zyc15, zyc209, zyc52]
noncomputable def zyh146 : zH := (126, [zyr0, zyr1, zyr2, zyr3, zyr4, zyr151, zyr23, zyr7], zym7)
def zyv296 : zAV := .inl ((.ofNat 64, .ofNat 76), none)
noncomputable def zyc210 : zC := .inr (8, [zyv114, zyv26, zyv27, zyv101, zyv115, zyv116, zyv117, zyv118, zyv126, zyv119, zyv25, zyv126, zyv118, zyv17, zyv165, zyv296, zyv166, zyv123, zyv124, zyv125, zyv35, zyv126, zyv127, zyv128, zyv13, zyv129, zyv130, zyv18, zyv18, zyv131, zyv132, zyv133, zyv134, zyv135, zyv136, zyv137, zyv138, zyv139, zyv140, zyv141, zyv142, zyv143, zyv144, zyv145, zyv15, zyv13, zyv15, zyv15, zyv146, zyv147, zyv148])
noncomputable def zyr152 : List zC := [zyc46, zyc46, zyc47, zyc48, zyc10, zyc11, zyc10, zyc12, zyc49, zyc14, zyc15, zyc50, zyc14, zyc15, zyc210, zyc52]
noncomputable def zyh147 : zH := (126, [zyr0, zyr1, zyr2, zyr3, zyr4, zyr152, zyr23, zyr7], zym7)
def zyv297 : zAV := .inl ((.ofNat 65, .ofNat 75), none)
noncomputable def zyc211 : zC := .inr (8, [zyv114, zyv26, zyv27, zyv101, zyv115, zyv116, zyv117, zyv118, zyv126, zyv119, zyv25, zyv126, zyv118, zyv17, zyv165, zyv297, zyv297, zyv123, zyv124, zyv125, zyv35, zyv126, zyv127, zyv128, zyv13, zyv129, zyv130, zyv18, zyv18, zyv131, zyv132, zyv133, zyv134, zyv135, zyv136, zyv137, zyv138, zyv139, zyv140, zyv141, zyv142, zyv143, zyv144, zyv145, zyv15, zyv13, zyv15, zyv15, zyv146, zyv147, zyv148])
noncomputable def zyr153 : List zC := [zyc46, zyc46, zyc47, zyc48, zyc10, zyc11, zyc10, zyc12, zyc49, zyc14, zyc15, zyc50, zyc14, zyc15, zyc211, zyc52]
noncomputable def zyh148 : zH := (126, [zyr0, zyr1, zyr2, zyr3, zyr4, zyr153, zyr23, zyr7], zym7)
def zyv298 : zAV := .inl ((.ofNat 65, .ofNat 76), none)
noncomputable def zyc212 : zC := .inr (8, [zyv114, zyv26, zyv27, zyv101, zyv115, zyv116, zyv117, zyv118, zyv126, zyv119, zyv25, zyv126, zyv118, zyv17, zyv165, zyv298, zyv166, zyv123, zyv124, zyv125, zyv35, zyv126, zyv127, zyv128, zyv13, zyv129, zyv130, zyv18, zyv18, zyv131, zyv132, zyv133, zyv134, zyv135, zyv136, zyv137, zyv138, zyv139, zyv140, zyv141, zyv142, zyv143, zyv144, zyv145, zyv15, zyv13, zyv15, zyv15, zyv146, zyv147, zyv148])
noncomputable def zyr154 : List zC := [zyc46, zyc46, zyc47, zyc48, zyc10, zyc11, zyc10, zyc12, zyc49, zyc14, zyc15, zyc50, zyc14, zyc15, zyc212, zyc52]
noncomputable def zyh149 : zH := (126, [zyr0, zyr1, zyr2, zyr3, zyr4, zyr154, zyr23, zyr7], zym7)
def zyv299 : zAV := .inl ((.ofNat 66, .ofNat 75), none)
noncomputable def zyc213 : zC := .inr (8, [zyv114, zyv26, zyv27, zyv101, zyv115, zyv116, zyv117, zyv118, zyv126, zyv119, zyv25, zyv126, zyv118, zyv17, zyv165, zyv299, zyv299, zyv123, zyv124, zyv125, zyv35, zyv126, zyv127, zyv128, zyv13, zyv129, zyv130, zyv18, zyv18, zyv131, zyv132, zyv133, zyv134, zyv135, zyv136, zyv137, zyv138, zyv139, zyv140, zyv141, zyv142, zyv143, zyv144, zyv145, zyv15, zyv13, zyv15, zyv15, zyv146, zyv147, zyv148])
noncomputable def zyr155 : List zC := [zyc46, zyc46, zyc47, zyc48, zyc10, zyc11, zyc10, zyc12, zyc49, zyc14, zyc15, zyc50, zyc14, zyc15, zyc213, zyc52]
noncomputable def zyh150 : zH := (126, [zyr0, zyr1, zyr2, zyr3, zyr4, zyr155, zyr23, zyr7], zym7)
def zyv300 : zAV := .inl ((.ofNat 66, .ofNat 76), none)
noncomputable def zyc214 : zC := .inr (8, [zyv114, zyv26, zyv27, zyv101, zyv115, zyv116, zyv117, zyv118, zyv126, zyv119, zyv25, zyv126, zyv118, zyv17, zyv165, zyv300, zyv166, zyv123, zyv124, zyv125, zyv35, zyv126, zyv127, zyv128, zyv13, zyv129, zyv130, zyv18, zyv18, zyv131, zyv132, zyv133, zyv134, zyv135, zyv136, zyv137, zyv138, zyv139, zyv140, zyv141, zyv142, zyv143, zyv144, zyv145, zyv15, zyv13, zyv15, zyv15, zyv146, zyv147, zyv148])
noncomputable def zyr156 : List zC := [zyc46, zyc46, zyc47, zyc48, zyc10, zyc11, zyc10, zyc12, zyc49, zyc14, zyc15, zyc50, zyc14, zyc15, zyc214, zyc52]
noncomputable def zyh151 : zH := (126, [zyr0, zyr1, zyr2, zyr3, zyr4, zyr156, zyr23, zyr7], zym7)
def zyv301 : zAV := .inl ((.ofNat 67, .ofNat 75), none)
noncomputable def zyc215 : zC := .inr (8, [zyv114, zyv26, zyv27, zyv101, zyv115, zyv116, zyv117, zyv118, zyv126, zyv119, zyv25, zyv126, zyv118, zyv17, zyv165, zyv301, zyv301, zyv123, zyv124, zyv125, zyv35, zyv126, zyv127, zyv128, zyv13, zyv129, zyv130, zyv18, zyv18, zyv131, zyv132, zyv133, zyv134, zyv135, zyv136, zyv137, zyv138, zyv139, zyv140, zyv141, zyv142, zyv143, zyv144, zyv145, zyv15, zyv13, zyv15, zyv15, zyv146, zyv147, zyv148])
noncomputable def zyr157 : List zC := [zyc46, zyc46, zyc47, zyc48, zyc10, zyc11, zyc10, zyc12, zyc49, zyc14, zyc15, zyc50, zyc14, zyc15, zyc215, zyc52]
noncomputable def zyh152 : zH := (126, [zyr0, zyr1, zyr2, zyr3, zyr4, zyr157, zyr23, zyr7], zym7)
def zyv302 : zAV := .inl ((.ofNat 67, .ofNat 76), none)
noncomputable def zyc216 : zC := .inr (8, [zyv114, zyv26, zyv27, zyv101, zyv115, zyv116, zyv117, zyv118, zyv126, zyv119, zyv25, zyv126, zyv118, zyv17, zyv165, zyv302, zyv166, zyv123, zyv124, zyv125, zyv35, zyv126, zyv127, zyv128, zyv13, zyv129, zyv130, zyv18, zyv18, zyv131, zyv132, zyv133, zyv134, zyv135, zyv136, zyv137, zyv138, zyv139, zyv140, zyv141, zyv142, zyv143, zyv144, zyv145, zyv15, zyv13, zyv15, zyv15, zyv146, zyv147, zyv148])
noncomputable def zyr158 : List zC := [zyc46, zyc46, zyc47, zyc48, zyc10, zyc11, zyc10, zyc12, zyc49, zyc14, zyc15, zyc50, zyc14, zyc15, zyc216, zyc52]
noncomputable def zyh153 : zH := (126, [zyr0, zyr1, zyr2, zyr3, zyr4, zyr158, zyr23, zyr7], zym7)
def zyv303 : zAV := .inl ((.ofNat 68, .ofNat 75), none)
noncomputable def zyc217 : zC := .inr (8, [zyv114, zyv26, zyv27, zyv101, zyv115, zyv116, zyv117, zyv118, zyv126, zyv119, zyv25, zyv126, zyv118, zyv17, zyv165, zyv303, zyv303, zyv123, zyv124, zyv125, zyv35, zyv126, zyv127, zyv128, zyv13, zyv129, zyv130, zyv18, zyv18, zyv131, zyv132, zyv133, zyv134, zyv135, zyv136, zyv137, zyv138, zyv139, zyv140, zyv141, zyv142, zyv143, zyv144, zyv145, zyv15, zyv13, zyv15, zyv15, zyv146, zyv147, zyv148])
noncomputable def zyr159 : List zC := [zyc46, zyc46, zyc47, zyc48, zyc10, zyc11, zyc10, zyc12, zyc49, zyc14, zyc15, zyc50, zyc14, zyc15, zyc217, zyc52]
noncomputable def zyh154 : zH := (126, [zyr0, zyr1, zyr2, zyr3, zyr4, zyr159, zyr23, zyr7], zym7)
def zyv304 : zAV := .inl ((.ofNat 68, .ofNat 76), none)
noncomputable def zyc218 : zC := .inr (8, [zyv114, zyv26, zyv27, zyv101, zyv115, zyv116, zyv117, zyv118, zyv126, zyv119, zyv25, zyv126, zyv118, zyv17, zyv165, zyv304, zyv166, zyv123, zyv124, zyv125, zyv35, zyv126, zyv127, zyv128, zyv13, zyv129, zyv130, zyv18, zyv18, zyv131, zyv132, zyv133, zyv134, zyv135, zyv136, zyv137, zyv138, zyv139, zyv140, zyv141, zyv142, zyv143, zyv144, zyv145, zyv15, zyv13, zyv15, zyv15, zyv146, zyv147, zyv148])
noncomputable def zyr160 : List zC := [zyc46, zyc46, zyc47, zyc48, zyc10, zyc11, zyc10, zyc12, zyc49, zyc14, zyc15, zyc50, zyc14, zyc15, zyc218, zyc52]
noncomputable def zyh155 : zH := (126, [zyr0, zyr1, zyr2, zyr3, zyr4, zyr160, zyr23, zyr7], zym7)
def zyv305 : zAV := .inl ((.ofNat 69, .ofNat 75), none)
noncomputable def zyc219 : zC := .inr (8, [zyv114, zyv26, zyv27, zyv101, zyv115, zyv116, zyv117, zyv118, zyv126, zyv119, zyv25, zyv126, zyv118, zyv17, zyv165, zyv305, zyv305, zyv123, zyv124, zyv125, zyv35, zyv126, zyv127, zyv128, zyv13, zyv129, zyv130, zyv18, zyv18, zyv131, zyv132, zyv133, zyv134, zyv135, zyv136, zyv137, zyv138, zyv139, zyv140, zyv141, zyv142, zyv143, zyv144, zyv145, zyv15, zyv13, zyv15, zyv15, zyv146, zyv147, zyv148])
noncomputable def zyr161 : List zC := [zyc46, zyc46, zyc47, zyc48, zyc10, zyc11, zyc10, zyc12, zyc49, zyc14, zyc15, zyc50, zyc14, zyc15, zyc219, zyc52]
noncomputable def zyh156 : zH := (126, [zyr0, zyr1, zyr2, zyr3, zyr4, zyr161, zyr23, zyr7], zym7)
def zyv306 : zAV := .inl ((.ofNat 69, .ofNat 76), none)
noncomputable def zyc220 : zC := .inr (8, [zyv114, zyv26, zyv27, zyv101, zyv115, zyv116, zyv117, zyv118, zyv126, zyv119, zyv25, zyv126, zyv118, zyv17, zyv165, zyv306, zyv166, zyv123, zyv124, zyv125, zyv35, zyv126, zyv127, zyv128, zyv13, zyv129, zyv130, zyv18, zyv18, zyv131, zyv132, zyv133, zyv134, zyv135, zyv136, zyv137, zyv138, zyv139, zyv140, zyv141, zyv142, zyv143, zyv144, zyv145, zyv15, zyv13, zyv15, zyv15, zyv146, zyv147, zyv148])
noncomputable def zyr162 : List zC := [zyc46, zyc46, zyc47, zyc48, zyc10, zyc11, zyc10, zyc12, zyc49, zyc14, zyc15, zyc50, zyc14, zyc15, zyc220, zyc52]
noncomputable def zyh157 : zH := (126, [zyr0, zyr1, zyr2, zyr3, zyr4, zyr162, zyr23, zyr7], zym7)
def zyv307 : zAV := .inl ((.ofNat 70, .ofNat 75), none)
noncomputable def zyc221 : zC := .inr (8, [zyv114, zyv26, zyv27, zyv101, zyv115, zyv116, zyv117, zyv118, zyv126, zyv119, zyv25, zyv126, zyv118, zyv17, zyv165, zyv307, zyv307, zyv123, zyv124, zyv125, zyv35, zyv126, zyv127, zyv128, zyv13, zyv129, zyv130, zyv18, zyv18, zyv131, zyv132, zyv133, zyv134, zyv135, zyv136, zyv137, zyv138, zyv139, zyv140, zyv141, zyv142, zyv143, zyv144, zyv145, zyv15, zyv13, zyv15, zyv15, zyv146, zyv147, zyv148])
noncomputable def zyr163 : List zC := [zyc46, zyc46, zyc47, zyc48, zyc10, zyc11, zyc10, zyc12, zyc49, zyc14, zyc15, zyc50, zyc14, zyc15, zyc221, zyc52]
noncomputable def zyh158 : zH := (126, [zyr0, zyr1, zyr2, zyr3, zyr4, zyr163, zyr23, zyr7], zym7)
def zyv308 : zAV := .inl ((.ofNat 70, .ofNat 76), none)
noncomputable def zyc222 : zC := .inr (8, [zyv114, zyv26, zyv27, zyv101, zyv115, zyv116, zyv117, zyv118, zyv126, zyv119, zyv25, zyv126, zyv118, zyv17, zyv165, zyv308, zyv166, zyv123, zyv124, zyv125, zyv35, zyv126, zyv127, zyv128, zyv13, zyv129, zyv130, zyv18, zyv18, zyv131, zyv132, zyv133, zyv134, zyv135, zyv136, zyv137, zyv138, zyv139, zyv140, zyv141, zyv142, zyv143, zyv144, zyv145, zyv15, zyv13, zyv15, zyv15, zyv146, zyv147, zyv148])
noncomputable def zyr164 : List zC := [zyc46, zyc46, zyc47, zyc48, zyc10, zyc11, zyc10, zyc12, zyc49, zyc14, zyc15, zyc50, zyc14, zyc15, zyc222, zyc52]
noncomputable def zyh159 : zH := (126, [zyr0, zyr1, zyr2, zyr3, zyr4, zyr164, zyr23, zyr7], zym7)
def zyv309 : zAV := .inl ((.ofNat 71, .ofNat 75), none)
noncomputable def zyc223 : zC := .inr (8, [zyv114, zyv26, zyv27, zyv101, zyv115, zyv116, zyv117, zyv118, zyv126, zyv119, zyv25, zyv126, zyv118, zyv17, zyv165, zyv309, zyv309, zyv123, zyv124, zyv125, zyv35, zyv126, zyv127, zyv128, zyv13, zyv129, zyv130, zyv18, zyv18, zyv131, zyv132, zyv133, zyv134, zyv135, zyv136, zyv137, zyv138, zyv139, zyv140, zyv141, zyv142, zyv143, zyv144, zyv145, zyv15, zyv13, zyv15, zyv15, zyv146, zyv147, zyv148])
noncomputable def zyr165 : List zC := [zyc46, zyc46, zyc47, zyc48, zyc10, zyc11, zyc10, zyc12, zyc49, zyc14, zyc15, zyc50, zyc14, zyc15, zyc223, zyc52]
noncomputable def zyh160 : zH := (126, [zyr0, zyr1, zyr2, zyr3, zyr4, zyr165, zyr23, zyr7], zym7)
def zyv310 : zAV := .inl ((.ofNat 71, .ofNat 76), none)
noncomputable def zyc224 : zC := .inr (8, [zyv114, zyv26, zyv27, zyv101, zyv115, zyv116, zyv117, zyv118, zyv126, zyv119, zyv25, zyv126, zyv118, zyv17, zyv165, zyv310, zyv166, zyv123, zyv124, zyv125, zyv35, zyv126, zyv127, zyv128, zyv13, zyv129, zyv130, zyv18, zyv18, zyv131, zyv132, zyv133, zyv134, zyv135, zyv136, zyv137, zyv138, zyv139, zyv140, zyv141, zyv142, zyv143, zyv144, zyv145, zyv15, zyv13, zyv15, zyv15, zyv146, zyv147, zyv148])
noncomputable def zyr166 : List zC := [zyc46, zyc46, zyc47, zyc48, zyc10, zyc11, zyc10, zyc12, zyc49, zyc14, zyc15, zyc50, zyc14, zyc15, zyc224, zyc52]
noncomputable def zyh161 : zH := (126, [zyr0, zyr1, zyr2, zyr3, zyr4, zyr166, zyr23, zyr7], zym7)
def zyv311 : zAV := .inl ((.ofNat 72, .ofNat 75), none)
noncomputable def zyc225 : zC := .inr (8, [zyv114, zyv26, zyv27, zyv101, zyv115, zyv116, zyv117, zyv118, zyv126, zyv119, zyv25, zyv126, zyv118, zyv17, zyv165, zyv311, zyv311, zyv123, zyv124, zyv125, zyv35, zyv126, zyv127, zyv128, zyv13, zyv129, zyv130, zyv18, zyv18, zyv131, zyv132, zyv133, zyv134, zyv135, zyv136, zyv137, zyv138, zyv139, zyv140, zyv141, zyv142, zyv143, zyv144, zyv145, zyv15, zyv13, zyv15, zyv15, zyv146, zyv147, zyv148])
noncomputable def zyr167 : List zC := [zyc46, zyc46, zyc47, zyc48, zyc10, zyc11, zyc10, zyc12, zyc49, zyc14, zyc15, zyc50, zyc14, zyc15, zyc225, zyc52]
noncomputable def zyh162 : zH := (126, [zyr0, zyr1, zyr2, zyr3, zyr4, zyr167, zyr23, zyr7], zym7)
def zyv312 : zAV := .inl ((.ofNat 72, .ofNat 76), none)
noncomputable def zyc226 : zC := .inr (8, [zyv114, zyv26, zyv27, zyv101, zyv115, zyv116, zyv117, zyv118, zyv126, zyv119, zyv25, zyv126, zyv118, zyv17, zyv165, zyv312, zyv166, zyv123, zyv124, zyv125, zyv35, zyv126, zyv127, zyv128, zyv13, zyv129, zyv130, zyv18, zyv18, zyv131, zyv132, zyv133, zyv134, zyv135, zyv136, zyv137, zyv138, zyv139, zyv140, zyv141, zyv142, zyv143, zyv144, zyv145, zyv15, zyv13, zyv15, zyv15, zyv146, zyv147, zyv148])
noncomputable def zyr168 : List zC := [zyc46, zyc46, zyc47, zyc48, zyc10, zyc11, zyc10, zyc12, zyc49, zyc14, zyc15, zyc50, zyc14, zyc15, zyc226, zyc52]
noncomputable def zyh163 : zH := (126, [zyr0, zyr1, zyr2, zyr3, zyr4, zyr168, zyr23, zyr7], zym7)
def zyv313 : zAV := .inl ((.ofNat 73, .ofNat 75), none)
noncomputable def zyc227 : zC := .inr (8, [zyv114, zyv26, zyv27, zyv101, zyv115, zyv116, zyv117, zyv118, zyv126, zyv119, zyv25, zyv126, zyv118, zyv17, zyv165, zyv313, zyv313, zyv123, zyv124, zyv125, zyv35, zyv126, zyv127, zyv128, zyv13, zyv129, zyv130, zyv18, zyv18, zyv131, zyv132, zyv133, zyv134, zyv135, zyv136, zyv137, zyv138, zyv139, zyv140, zyv141, zyv142, zyv143, zyv144, zyv145, zyv15, zyv13, zyv15, zyv15, zyv146, zyv147, zyv148])
noncomputable def zyr169 : List zC := [zyc46, zyc46, zyc47, zyc48, zyc10, zyc11, zyc10, zyc12, zyc49, zyc14, zyc15, zyc50, zyc14, zyc15, zyc227, zyc52]
noncomputable def zyh164 : zH := (126, [zyr0, zyr1, zyr2, zyr3, zyr4, zyr169, zyr23, zyr7], zym7)
def zyv314 : zAV := .inl ((.ofNat 73, .ofNat 76), none)
noncomputable def zyc228 : zC := .inr (8, [zyv114, zyv26, zyv27, zyv101, zyv115, zyv116, zyv117, zyv118, zyv126, zyv119, zyv25, zyv126, zyv118, zyv17, zyv165, zyv314, zyv166, zyv123, zyv124, zyv125, zyv35, zyv126, zyv127, zyv128, zyv13, zyv129, zyv130, zyv18, zyv18, zyv131, zyv132, zyv133, zyv134, zyv135, zyv136, zyv137, zyv138, zyv139, zyv140, zyv141, zyv142, zyv143, zyv144, zyv145, zyv15, zyv13, zyv15, zyv15, zyv146, zyv147, zyv148])
noncomputable def zyr170 : List zC := [zyc46, zyc46, zyc47, zyc48, zyc10, zyc11, zyc10, zyc12, zyc49, zyc14, zyc15, zyc50, zyc14, zyc15, zyc228, zyc52]
noncomputable def zyh165 : zH := (126, [zyr0, zyr1, zyr2, zyr3, zyr4, zyr170, zyr23, zyr7], zym7)
def zyv315 : zAV := .inl ((.ofNat 74, .ofNat 75), none)
noncomputable def zyc229 : zC := .inr (8, [zyv114, zyv26, zyv27, zyv101, zyv115, zyv116, zyv117, zyv118, zyv126, zyv119, zyv25, zyv126, zyv118, zyv17, zyv165, zyv315, zyv315, zyv123, zyv124, zyv125, zyv35, zyv126, zyv127, zyv128, zyv13, zyv129, zyv130, zyv18, zyv18, zyv131, zyv132, zyv133, zyv134, zyv135, zyv136, zyv137, zyv138, zyv139, zyv140, zyv141, zyv142, zyv143, zyv144, zyv145, zyv15, zyv13, zyv15, zyv15, zyv146, zyv147, zyv148])
noncomputable def zyr171 : List zC := [zyc46, zyc46, zyc47, zyc48, zyc10, zyc11, zyc10, zyc12, zyc49, zyc14, zyc15, zyc50, zyc14, zyc15, zyc229, zyc52]
noncomputable def zyh166 : zH := (126, [zyr0, zyr1, zyr2, zyr3, zyr4, zyr171, zyr23, zyr7], zym7)
def zyv316 : zAV := .inl ((.ofNat 74, .ofNat 76), none)
noncomputable def zyc230 : zC := .inr (8, [zyv114, zyv26, zyv27, zyv101, zyv115, zyv116, zyv117, zyv118, zyv126, zyv119, zyv25, zyv126, zyv118, zyv17, zyv165, zyv316, zyv166, zyv123, zyv124, zyv125, zyv35, zyv126, zyv127, zyv128, zyv13, zyv129, zyv130, zyv18, zyv18, zyv131, zyv132, zyv133, zyv134, zyv135, zyv136, zyv137, zyv138, zyv139, zyv140, zyv141, zyv142, zyv143, zyv144, zyv145, zyv15, zyv13, zyv15, zyv15, zyv146, zyv147, zyv148])
noncomputable def zyr172 : List zC := [zyc46, zyc46, zyc47, zyc48, zyc10, zyc11, zyc10, zyc12, zyc49, zyc14, zyc15, zyc50, zyc14, zyc15, zyc230, zyc52]
noncomputable def zyh167 : zH := (126, [zyr0, zyr1, zyr2, zyr3, zyr4, zyr172, zyr23, zyr7], zym7)
def zyv317 : zAV := .inl ((.ofNat 75, .ofNat 75), none)
noncomputable def zyc231 : zC := .inr (8, [zyv114, zyv26, zyv27, zyv101, zyv115, zyv116, zyv117, zyv118, zyv126, zyv119, zyv25, zyv126, zyv118, zyv17, zyv165, zyv317, zyv317, zyv123, zyv124, zyv125, zyv35, zyv126, zyv127, zyv128, zyv13, zyv129, zyv130, zyv18, zyv18, zyv131, zyv132, zyv133, zyv134, zyv135, zyv136, zyv137, zyv138, zyv139, zyv140, zyv141, zyv142, zyv143, zyv144, zyv145, zyv15, zyv13, zyv15, zyv15, zyv146, zyv147, zyv148])
noncomputable def zyr173 : List zC := [zyc46, zyc46, zyc47, zyc48, zyc10, zyc11, zyc10, zyc12, zyc49, zyc14, zyc15, zyc50, zyc14, zyc15, zyc231, zyc52]
noncomputable def zyh168 : zH := (126, [zyr0, zyr1, zyr2, zyr3, zyr4, zyr173, zyr23, zyr7], zym7)
def zyv318 : zAV := .inl ((.ofNat 75, .ofNat 76), none)
noncomputable def zyc232 : zC := .inr (8, [zyv114, zyv26, zyv27, zyv101, zyv115, zyv116, zyv117, zyv118, zyv126, zyv119, zyv25, zyv126, zyv118, zyv17, zyv165, zyv318, zyv166, zyv123, zyv124, zyv125, zyv35, zyv126, zyv127, zyv128, zyv13, zyv129, zyv130, zyv18, zyv18, zyv131, zyv132, zyv133, zyv134, zyv135, zyv136, zyv137, zyv138, zyv139, zyv140, zyv141, zyv142, zyv143, zyv144, zyv145, zyv15, zyv13, zyv15, zyv15, zyv146, zyv147, zyv148])
noncomputable def zyr174 : List zC := [zyc46, zyc46, zyc47, zyc48, zyc10, zyc11, zyc10, zyc12, zyc49, zyc14, zyc15, zyc50, zyc14, zyc15, zyc232, zyc52]
noncomputable def zyh169 : zH := (126, [zyr0, zyr1, zyr2, zyr3, zyr4, zyr174, zyr23, zyr7], zym7)
noncomputable def zyc233 : zC := .inr (8, [zyv114, zyv26, zyv27, zyv101, zyv115, zyv116, zyv117, zyv118, zyv126, zyv119, zyv25, zyv126, zyv118, zyv17, zyv165, zyv165, zyv165, zyv123, zyv124, zyv125, zyv35, zyv126, zyv127, zyv128, zyv13, zyv129, zyv130, zyv18, zyv18, zyv131, zyv132, zyv133, zyv134, zyv135, zyv136, zyv137, zyv138, zyv139, zyv140, zyv141, zyv142, zyv143, zyv144, zyv145, zyv15, zyv13, zyv15, zyv15, zyv146, zyv147, zyv148])
noncomputable def zyr175 : List zC := [zyc46, zyc46, zyc47, zyc48, zyc10, zyc11, zyc10, zyc12, zyc49, zyc14, zyc15, zyc50, zyc14, zyc15, zyc233, zyc52]
noncomputable def zyh170 : zH := (126, [zyr0, zyr1, zyr2, zyr3, zyr4, zyr175, zyr23, zyr7], zym7)
noncomputable def zyc234 : zC := .inr (8, [zyv114, zyv26, zyv27, zyv101, zyv115, zyv116, zyv117, zyv118, zyv126, zyv119, zyv25, zyv126, zyv118, zyv17, zyv165, zyv165, zyv166, zyv123, zyv124, zyv125, zyv35, zyv126, zyv127, zyv128, zyv13, zyv129, zyv130, zyv18, zyv18, zyv131, zyv132, zyv133, zyv134, zyv135, zyv136, zyv137, zyv138, zyv139, zyv140, zyv141, zyv142, zyv143, zyv144, zyv145, zyv15, zyv13, zyv15, zyv15, zyv146, zyv147, zyv148])
noncomputable def zyr176 : List zC := [zyc46, zyc46, zyc47, zyc48, zyc10, zyc11, zyc10, zyc12, zyc49, zyc14, zyc15, zyc50, zyc14, zyc15, zyc234, zyc52]
noncomputable def zyh171 : zH := (126, [zyr0, zyr1, zyr2, zyr3, zyr4, zyr176, zyr23, zyr7], zym7)
/-! X7_sign -/
noncomputable def zyx0a : List zAV := [.inr (.inr (.inl 0)), .inl ((.negSucc 2147483647, .ofNat 2147483647), none)]
def zyx0r : Option zAV := some (.inl ((.negSucc 0, .ofNat 80), none))
noncomputable def zyx0p : List zPw := []
noncomputable def zyx0d : zKw := (167, 2, 3, 420, zyx0a, zyh0, [(zyx0r, zyh1)])
noncomputable def zbzyx0e : Bool := zrunw zprog2 (zovW []) 100000 (zcutW [] none ((zyx0r, zyh1), 3, 420) zyx0p) 3 420 kX7_sign (zkin zyx0r zyh1) 0 (zargs 0 zyx0a, [], (zyh0.1, zyh0.2.1, 0), 0, 0)
/-! X8_sign -/
noncomputable def zyx1a : List zAV := [.inr (.inr (.inl 94)), .inl ((.negSucc 2147483647, .ofNat 2147483647), none)]
def zyx1r : Option zAV := some (.inl ((.negSucc 0, .ofNat 80), none))
noncomputable def zyx1p : List zPw := []
noncomputable def zyx1d : zKw := (280, 3, 2, 300, zyx1a, zyh0, [(zyx1r, zyh2)])
noncomputable def zbzyx1e : Bool := zrunw zprog2 (zovW []) 100000 (zcutW [] none ((zyx1r, zyh2), 2, 300) zyx1p) 2 300 k2X8_sign (zkin zyx1r zyh2) 0 (zargs 0 zyx1a, [], (zyh0.1, zyh0.2.1, 0), 0, 0)
/-! X7_end -/
noncomputable def zyx2a : List zAV := [.inr (.inr (.inl 0)), .inl ((.negSucc 2147483647, .ofNat 2147483647), none)]
def zyx2r : Option zAV := some (.inl ((.ofNat 0, .ofNat 1), none))
noncomputable def zyx2p : List zPw := []
noncomputable def zyx2d : zKw := (115, 2, 3, 420, zyx2a, zyh0, [(zyx2r, zyh3)])
noncomputable def zbzyx2e : Bool := zrunw zprog2 (zovW []) 100000 (zcutW [] none ((zyx2r, zyh3), 3, 420) zyx2p) 3 420 k2X7_end (zkin zyx2r zyh3) 0 (zargs 0 zyx2a, [], (zyh0.1, zyh0.2.1, 0), 0, 0)
/-! X8_end -/
noncomputable def zyx3a : List zAV := [.inr (.inr (.inl 94)), .inl ((.negSucc 2147483647, .ofNat 2147483647), none)]
def zyx3r : Option zAV := some (.inl ((.ofNat 0, .ofNat 1), none))
noncomputable def zyx3p : List zPw := []
noncomputable def zyx3d : zKw := (205, 2, 3, 420, zyx3a, zyh0, [(zyx3r, zyh4)])
noncomputable def zbzyx3e : Bool := zrunw zprog2 (zovW []) 100000 (zcutW [] none ((zyx3r, zyh4), 3, 420) zyx3p) 3 420 k2X8_end (zkin zyx3r zyh4) 0 (zargs 0 zyx3a, [], (zyh0.1, zyh0.2.1, 0), 0, 0)
/-! X0_readRiders -/
noncomputable def zyx4a : List zAV := [.inr (.inr (.inl 3)), .inr (.inr (.inl 1))]
def zyx4r : Option zAV := some (.inl ((.negSucc 76, .ofNat 8), none))
noncomputable def zyx4p : List zPw := [((27, ([(0, .inr (.inr (.inl 3))), (1, .inr (.inr (.inl 1))), (2, .inl ((.ofNat 0, .ofNat 76), some (2, .ofNat 0))), (3, .inl ((.ofNat 0, .ofNat 0), some (3, .ofNat 0))), (4, .inl ((.ofNat 0, .ofNat 0), some (4, .ofNat 0))), (5, .inl ((.ofNat 0, .ofNat 0), some (5, .ofNat 0)))], [], zyh6, 0, 0), [(5, .negSucc 1)], .ofNat 153), (zyx4r, zyh5), 4, 480),
  ((27, ([(0, .inr (.inr (.inl 3))), (1, .inr (.inr (.inl 1))), (2, .inl ((.ofNat 0, .ofNat 76), some (2, .ofNat 0))), (3, .inl ((.ofNat 0, .ofNat 0), some (3, .ofNat 0))), (4, .inl ((.ofNat 0, .ofNat 0), some (4, .ofNat 0))), (5, .inl ((.ofNat 0, .ofNat 0), some (5, .ofNat 0)))], [], zyh7, 0, 0), [(5, .negSucc 1)], .ofNat 153), (zyx4r, zyh5), 4, 480),
  ((27, ([(0, .inr (.inr (.inl 3))), (1, .inr (.inr (.inl 1))), (2, .inl ((.ofNat 0, .ofNat 76), some (2, .ofNat 0))), (3, .inl ((.ofNat 0, .ofNat 0), some (3, .ofNat 0))), (4, .inl ((.ofNat 0, .ofNat 0), some (4, .ofNat 0))), (5, .inl ((.ofNat 0, .ofNat 0), some (5, .ofNat 0)))], [], zyh8, 0, 0), [(5, .negSucc 1)], .ofNat 153), (zyx4r, zyh5), 4, 480),
  ((27, ([(0, .inr (.inr (.inl 3))), (1, .inr (.inr (.inl 1))), (2, .inl ((.ofNat 0, .ofNat 76), some (2, .ofNat 0))), (3, .inl ((.ofNat 0, .ofNat 0), some (3, .ofNat 0))), (4, .inl ((.ofNat 0, .ofNat 0), some (4, .ofNat 0))), (5, .inl ((.ofNat 0, .ofNat 0), some (5, .ofNat 0)))], [], zyh9, 0, 0), [(5, .negSucc 1)], .ofNat 153), (zyx4r, zyh5), 4, 480),
  ((27, ([(0, .inr (.inr (.inl 3))), (1, .inr (.inr (.inl 1))), (2, .inl ((.ofNat 0, .ofNat 76), some (2, .ofNat 0))), (3, .inl ((.ofNat 0, .ofNat 0), some (3, .ofNat 0))), (4, .inl ((.ofNat 0, .ofNat 0), some (4, .ofNat 0))), (5, .inl ((.ofNat 0, .ofNat 0), some (5, .ofNat 0)))], [], zyh10, 0, 0), [(5, .negSucc 1)], .ofNat 153), (zyx4r, zyh5), 4, 480),
  ((27, ([(0, .inr (.inr (.inl 3))), (1, .inr (.inr (.inl 1))), (2, .inl ((.ofNat 0, .ofNat 76), some (2, .ofNat 0))), (3, .inl ((.ofNat 0, .ofNat 0), some (3, .ofNat 0))), (4, .inl ((.ofNat 0, .ofNat 0), some (4, .ofNat 0))), (5, .inl ((.ofNat 0, .ofNat 0), some (5, .ofNat 0)))], [], zyh11, 0, 0), [(5, .negSucc 1)], .ofNat 153), (zyx4r, zyh5), 4, 480),
  ((27, ([(0, .inr (.inr (.inl 3))), (1, .inr (.inr (.inl 1))), (2, .inl ((.ofNat 0, .ofNat 76), some (2, .ofNat 0))), (3, .inl ((.ofNat 0, .ofNat 0), some (3, .ofNat 0))), (4, .inl ((.ofNat 0, .ofNat 0), some (4, .ofNat 0))), (5, .inl ((.ofNat 0, .ofNat 0), some (5, .ofNat 0)))], [], zyh12, 0, 0), [(5, .negSucc 1)], .ofNat 153), (zyx4r, zyh5), 4, 480),
  ((27, ([(0, .inr (.inr (.inl 3))), (1, .inr (.inr (.inl 1))), (2, .inl ((.ofNat 0, .ofNat 76), some (2, .ofNat 0))), (3, .inl ((.ofNat 0, .ofNat 0), some (3, .ofNat 0))), (4, .inl ((.ofNat 0, .ofNat 0), some (4, .ofNat 0))), (5, .inl ((.ofNat 0, .ofNat 0), some (5, .ofNat 0)))], [], zyh13, 0, 0), [(5, .negSucc 1)], .ofNat 153), (zyx4r, zyh5), 4, 480),
  ((27, ([(0, .inr (.inr (.inl 3))), (1, .inr (.inr (.inl 1))), (2, .inl ((.ofNat 0, .ofNat 76), some (2, .ofNat 0))), (3, .inl ((.ofNat 0, .ofNat 0), some (3, .ofNat 0))), (4, .inl ((.ofNat 0, .ofNat 0), some (4, .ofNat 0))), (5, .inl ((.ofNat 0, .ofNat 0), some (5, .ofNat 0)))], [], zyh14, 0, 0), [(5, .negSucc 1)], .ofNat 153), (zyx4r, zyh5), 4, 480),
  ((27, ([(0, .inr (.inr (.inl 3))), (1, .inr (.inr (.inl 1))), (2, .inl ((.ofNat 1, .ofNat 76), some (2, .ofNat 0))), (3, .inl ((.ofNat 1, .ofNat 1), some (3, .ofNat 0))), (4, .inl ((.ofNat 0, .ofNat 0), some (4, .ofNat 0))), (5, .inl ((.ofNat 1, .ofNat 1), some (5, .ofNat 0))), (6, .inl ((.ofNat 1, .ofNat 1), some (6, .ofNat 0)))], [], zyh6, 0, 0), [(5, .negSucc 1)], .ofNat 153), (zyx4r, zyh5), 4, 480),
  ((27, ([(0, .inr (.inr (.inl 3))), (1, .inr (.inr (.inl 1))), (2, .inl ((.ofNat 1, .ofNat 76), some (2, .ofNat 0))), (3, .inl ((.ofNat 1, .ofNat 1), some (3, .ofNat 0))), (4, .inl ((.ofNat 0, .ofNat 0), some (4, .ofNat 0))), (5, .inl ((.ofNat 1, .ofNat 1), some (5, .ofNat 0))), (6, .inl ((.ofNat 1, .ofNat 1), some (6, .ofNat 0)))], [], zyh7, 0, 0), [(5, .negSucc 1)], .ofNat 153), (zyx4r, zyh5), 4, 480),
  ((27, ([(0, .inr (.inr (.inl 3))), (1, .inr (.inr (.inl 1))), (2, .inl ((.ofNat 1, .ofNat 76), some (2, .ofNat 0))), (3, .inl ((.ofNat 1, .ofNat 1), some (3, .ofNat 0))), (4, .inl ((.ofNat 0, .ofNat 0), some (4, .ofNat 0))), (5, .inl ((.ofNat 1, .ofNat 1), some (5, .ofNat 0))), (6, .inl ((.ofNat 1, .ofNat 1), some (6, .ofNat 0)))], [], zyh8, 0, 0), [(5, .negSucc 1)], .ofNat 153), (zyx4r, zyh5), 4, 480),
  ((27, ([(0, .inr (.inr (.inl 3))), (1, .inr (.inr (.inl 1))), (2, .inl ((.ofNat 1, .ofNat 76), some (2, .ofNat 0))), (3, .inl ((.ofNat 1, .ofNat 1), some (3, .ofNat 0))), (4, .inl ((.ofNat 0, .ofNat 0), some (4, .ofNat 0))), (5, .inl ((.ofNat 1, .ofNat 1), some (5, .ofNat 0))), (6, .inl ((.ofNat 1, .ofNat 1), some (6, .ofNat 0)))], [], zyh9, 0, 0), [(5, .negSucc 1)], .ofNat 153), (zyx4r, zyh5), 4, 480),
  ((27, ([(0, .inr (.inr (.inl 3))), (1, .inr (.inr (.inl 1))), (2, .inl ((.ofNat 1, .ofNat 76), some (2, .ofNat 0))), (3, .inl ((.ofNat 1, .ofNat 1), some (3, .ofNat 0))), (4, .inl ((.ofNat 0, .ofNat 0), some (4, .ofNat 0))), (5, .inl ((.ofNat 1, .ofNat 1), some (5, .ofNat 0))), (6, .inl ((.ofNat 1, .ofNat 1), some (6, .ofNat 0)))], [], zyh10, 0, 0), [(5, .negSucc 1)], .ofNat 153), (zyx4r, zyh5), 4, 480),
  ((27, ([(0, .inr (.inr (.inl 3))), (1, .inr (.inr (.inl 1))), (2, .inl ((.ofNat 1, .ofNat 76), some (2, .ofNat 0))), (3, .inl ((.ofNat 1, .ofNat 1), some (3, .ofNat 0))), (4, .inl ((.ofNat 0, .ofNat 0), some (4, .ofNat 0))), (5, .inl ((.ofNat 1, .ofNat 1), some (5, .ofNat 0))), (6, .inl ((.ofNat 1, .ofNat 1), some (6, .ofNat 0)))], [], zyh11, 0, 0), [(5, .negSucc 1)], .ofNat 153), (zyx4r, zyh5), 4, 480),
  ((27, ([(0, .inr (.inr (.inl 3))), (1, .inr (.inr (.inl 1))), (2, .inl ((.ofNat 1, .ofNat 76), some (2, .ofNat 0))), (3, .inl ((.ofNat 1, .ofNat 1), some (3, .ofNat 0))), (4, .inl ((.ofNat 0, .ofNat 0), some (4, .ofNat 0))), (5, .inl ((.ofNat 1, .ofNat 1), some (5, .ofNat 0))), (6, .inl ((.ofNat 1, .ofNat 1), some (6, .ofNat 0)))], [], zyh12, 0, 0), [(5, .negSucc 1)], .ofNat 153), (zyx4r, zyh5), 4, 480),
  ((27, ([(0, .inr (.inr (.inl 3))), (1, .inr (.inr (.inl 1))), (2, .inl ((.ofNat 1, .ofNat 76), some (2, .ofNat 0))), (3, .inl ((.ofNat 1, .ofNat 1), some (3, .ofNat 0))), (4, .inl ((.ofNat 0, .ofNat 0), some (4, .ofNat 0))), (5, .inl ((.ofNat 1, .ofNat 1), some (5, .ofNat 0))), (6, .inl ((.ofNat 1, .ofNat 1), some (6, .ofNat 0)))], [], zyh13, 0, 0), [(5, .negSucc 1)], .ofNat 153), (zyx4r, zyh5), 4, 480),
  ((27, ([(0, .inr (.inr (.inl 3))), (1, .inr (.inr (.inl 1))), (2, .inl ((.ofNat 3, .ofNat 76), some (2, .ofNat 0))), (3, .inl ((.ofNat 0, .ofNat 0), some (3, .ofNat 0))), (4, .inl ((.ofNat 1, .ofNat 1), some (4, .ofNat 0))), (5, .inl ((.ofNat 3, .ofNat 76), some (5, .ofNat 0))), (6, .inl ((.ofNat 0, .ofNat 0), some (6, .ofNat 0)))], [], zyh6, 0, 0), [(5, .negSucc 1)], .ofNat 153), (zyx4r, zyh5), 4, 480),
  ((27, ([(0, .inr (.inr (.inl 3))), (1, .inr (.inr (.inl 1))), (2, .inl ((.ofNat 3, .ofNat 76), some (2, .ofNat 0))), (3, .inl ((.ofNat 0, .ofNat 0), some (3, .ofNat 0))), (4, .inl ((.ofNat 1, .ofNat 1), some (4, .ofNat 0))), (5, .inl ((.ofNat 3, .ofNat 76), some (5, .ofNat 0))), (6, .inl ((.ofNat 0, .ofNat 0), some (6, .ofNat 0)))], [], zyh7, 0, 0), [(5, .negSucc 1)], .ofNat 153), (zyx4r, zyh5), 4, 480),
  ((27, ([(0, .inr (.inr (.inl 3))), (1, .inr (.inr (.inl 1))), (2, .inl ((.ofNat 3, .ofNat 76), some (2, .ofNat 0))), (3, .inl ((.ofNat 0, .ofNat 0), some (3, .ofNat 0))), (4, .inl ((.ofNat 1, .ofNat 1), some (4, .ofNat 0))), (5, .inl ((.ofNat 3, .ofNat 76), some (5, .ofNat 0))), (6, .inl ((.ofNat 0, .ofNat 0), some (6, .ofNat 0)))], [], zyh8, 0, 0), [(5, .negSucc 1)], .ofNat 153), (zyx4r, zyh5), 4, 480),
  ((27, ([(0, .inr (.inr (.inl 3))), (1, .inr (.inr (.inl 1))), (2, .inl ((.ofNat 3, .ofNat 76), some (2, .ofNat 0))), (3, .inl ((.ofNat 0, .ofNat 0), some (3, .ofNat 0))), (4, .inl ((.ofNat 1, .ofNat 1), some (4, .ofNat 0))), (5, .inl ((.ofNat 3, .ofNat 76), some (5, .ofNat 0))), (6, .inl ((.ofNat 0, .ofNat 0), some (6, .ofNat 0)))], [], zyh9, 0, 0), [(5, .negSucc 1)], .ofNat 153), (zyx4r, zyh5), 4, 480),
  ((27, ([(0, .inr (.inr (.inl 3))), (1, .inr (.inr (.inl 1))), (2, .inl ((.ofNat 3, .ofNat 76), some (2, .ofNat 0))), (3, .inl ((.ofNat 0, .ofNat 0), some (3, .ofNat 0))), (4, .inl ((.ofNat 1, .ofNat 1), some (4, .ofNat 0))), (5, .inl ((.ofNat 3, .ofNat 76), some (5, .ofNat 0))), (6, .inl ((.ofNat 0, .ofNat 0), some (6, .ofNat 0)))], [], zyh10, 0, 0), [(5, .negSucc 1)], .ofNat 153), (zyx4r, zyh5), 4, 480),
  ((27, ([(0, .inr (.inr (.inl 3))), (1, .inr (.inr (.inl 1))), (2, .inl ((.ofNat 3, .ofNat 76), some (2, .ofNat 0))), (3, .inl ((.ofNat 0, .ofNat 0), some (3, .ofNat 0))), (4, .inl ((.ofNat 1, .ofNat 1), some (4, .ofNat 0))), (5, .inl ((.ofNat 3, .ofNat 76), some (5, .ofNat 0))), (6, .inl ((.ofNat 0, .ofNat 0), some (6, .ofNat 0)))], [], zyh11, 0, 0), [(5, .negSucc 1)], .ofNat 153), (zyx4r, zyh5), 4, 480),
  ((27, ([(0, .inr (.inr (.inl 3))), (1, .inr (.inr (.inl 1))), (2, .inl ((.ofNat 3, .ofNat 76), some (2, .ofNat 0))), (3, .inl ((.ofNat 0, .ofNat 0), some (3, .ofNat 0))), (4, .inl ((.ofNat 1, .ofNat 1), some (4, .ofNat 0))), (5, .inl ((.ofNat 3, .ofNat 76), some (5, .ofNat 0))), (6, .inl ((.ofNat 0, .ofNat 0), some (6, .ofNat 0)))], [], zyh12, 0, 0), [(5, .negSucc 1)], .ofNat 153), (zyx4r, zyh5), 4, 480),
  ((27, ([(0, .inr (.inr (.inl 3))), (1, .inr (.inr (.inl 1))), (2, .inl ((.ofNat 3, .ofNat 76), some (2, .ofNat 0))), (3, .inl ((.ofNat 0, .ofNat 0), some (3, .ofNat 0))), (4, .inl ((.ofNat 1, .ofNat 1), some (4, .ofNat 0))), (5, .inl ((.ofNat 3, .ofNat 76), some (5, .ofNat 0))), (6, .inl ((.ofNat 0, .ofNat 0), some (6, .ofNat 0)))], [], zyh13, 0, 0), [(5, .negSucc 1)], .ofNat 153), (zyx4r, zyh5), 4, 480),
  ((27, ([(0, .inr (.inr (.inl 3))), (1, .inr (.inr (.inl 1))), (2, .inl ((.ofNat 4, .ofNat 76), some (2, .ofNat 0))), (3, .inl ((.ofNat 1, .ofNat 1), some (3, .ofNat 0))), (4, .inl ((.ofNat 1, .ofNat 1), some (4, .ofNat 0))), (5, .inl ((.ofNat 4, .ofNat 76), some (5, .ofNat 0))), (6, .inl ((.ofNat 1, .ofNat 1), some (6, .ofNat 0)))], [], zyh6, 0, 0), [(5, .negSucc 1)], .ofNat 153), (zyx4r, zyh5), 4, 480),
  ((27, ([(0, .inr (.inr (.inl 3))), (1, .inr (.inr (.inl 1))), (2, .inl ((.ofNat 4, .ofNat 76), some (2, .ofNat 0))), (3, .inl ((.ofNat 1, .ofNat 1), some (3, .ofNat 0))), (4, .inl ((.ofNat 1, .ofNat 1), some (4, .ofNat 0))), (5, .inl ((.ofNat 4, .ofNat 76), some (5, .ofNat 0))), (6, .inl ((.ofNat 1, .ofNat 1), some (6, .ofNat 0)))], [], zyh7, 0, 0), [(5, .negSucc 1)], .ofNat 153), (zyx4r, zyh5), 4, 480),
  ((27, ([(0, .inr (.inr (.inl 3))), (1, .inr (.inr (.inl 1))), (2, .inl ((.ofNat 4, .ofNat 76), some (2, .ofNat 0))), (3, .inl ((.ofNat 1, .ofNat 1), some (3, .ofNat 0))), (4, .inl ((.ofNat 1, .ofNat 1), some (4, .ofNat 0))), (5, .inl ((.ofNat 4, .ofNat 76), some (5, .ofNat 0))), (6, .inl ((.ofNat 1, .ofNat 1), some (6, .ofNat 0)))], [], zyh8, 0, 0), [(5, .negSucc 1)], .ofNat 153), (zyx4r, zyh5), 4, 480),
  ((27, ([(0, .inr (.inr (.inl 3))), (1, .inr (.inr (.inl 1))), (2, .inl ((.ofNat 4, .ofNat 76), some (2, .ofNat 0))), (3, .inl ((.ofNat 1, .ofNat 1), some (3, .ofNat 0))), (4, .inl ((.ofNat 1, .ofNat 1), some (4, .ofNat 0))), (5, .inl ((.ofNat 4, .ofNat 76), some (5, .ofNat 0))), (6, .inl ((.ofNat 1, .ofNat 1), some (6, .ofNat 0)))], [], zyh9, 0, 0), [(5, .negSucc 1)], .ofNat 153), (zyx4r, zyh5), 4, 480),
  ((27, ([(0, .inr (.inr (.inl 3))), (1, .inr (.inr (.inl 1))), (2, .inl ((.ofNat 4, .ofNat 76), some (2, .ofNat 0))), (3, .inl ((.ofNat 1, .ofNat 1), some (3, .ofNat 0))), (4, .inl ((.ofNat 1, .ofNat 1), some (4, .ofNat 0))), (5, .inl ((.ofNat 4, .ofNat 76), some (5, .ofNat 0))), (6, .inl ((.ofNat 1, .ofNat 1), some (6, .ofNat 0)))], [], zyh10, 0, 0), [(5, .negSucc 1)], .ofNat 153), (zyx4r, zyh5), 4, 480),
  ((27, ([(0, .inr (.inr (.inl 3))), (1, .inr (.inr (.inl 1))), (2, .inl ((.ofNat 4, .ofNat 76), some (2, .ofNat 0))), (3, .inl ((.ofNat 1, .ofNat 1), some (3, .ofNat 0))), (4, .inl ((.ofNat 1, .ofNat 1), some (4, .ofNat 0))), (5, .inl ((.ofNat 4, .ofNat 76), some (5, .ofNat 0))), (6, .inl ((.ofNat 1, .ofNat 1), some (6, .ofNat 0)))], [], zyh11, 0, 0), [(5, .negSucc 1)], .ofNat 153), (zyx4r, zyh5), 4, 480),
  ((27, ([(0, .inr (.inr (.inl 3))), (1, .inr (.inr (.inl 1))), (2, .inl ((.ofNat 4, .ofNat 76), some (2, .ofNat 0))), (3, .inl ((.ofNat 1, .ofNat 1), some (3, .ofNat 0))), (4, .inl ((.ofNat 1, .ofNat 1), some (4, .ofNat 0))), (5, .inl ((.ofNat 4, .ofNat 76), some (5, .ofNat 0))), (6, .inl ((.ofNat 1, .ofNat 1), some (6, .ofNat 0)))], [], zyh12, 0, 0), [(5, .negSucc 1)], .ofNat 153), (zyx4r, zyh5), 4, 480),
  ((27, ([(0, .inr (.inr (.inl 3))), (1, .inr (.inr (.inl 1))), (2, .inl ((.ofNat 2, .ofNat 76), some (2, .ofNat 0))), (3, .inl ((.ofNat 2, .ofNat 2), some (3, .ofNat 0))), (4, .inl ((.ofNat 1, .ofNat 1), some (4, .ofNat 0))), (5, .inl ((.ofNat 2, .ofNat 76), some (5, .ofNat 0))), (6, .inl ((.ofNat 2, .ofNat 2), some (6, .ofNat 0)))], [], zyh6, 0, 0), [(5, .negSucc 1)], .ofNat 153), (zyx4r, zyh5), 4, 480),
  ((27, ([(0, .inr (.inr (.inl 3))), (1, .inr (.inr (.inl 1))), (2, .inl ((.ofNat 2, .ofNat 76), some (2, .ofNat 0))), (3, .inl ((.ofNat 2, .ofNat 2), some (3, .ofNat 0))), (4, .inl ((.ofNat 1, .ofNat 1), some (4, .ofNat 0))), (5, .inl ((.ofNat 2, .ofNat 76), some (5, .ofNat 0))), (6, .inl ((.ofNat 2, .ofNat 2), some (6, .ofNat 0)))], [], zyh7, 0, 0), [(5, .negSucc 1)], .ofNat 153), (zyx4r, zyh5), 4, 480),
  ((27, ([(0, .inr (.inr (.inl 3))), (1, .inr (.inr (.inl 1))), (2, .inl ((.ofNat 2, .ofNat 76), some (2, .ofNat 0))), (3, .inl ((.ofNat 2, .ofNat 2), some (3, .ofNat 0))), (4, .inl ((.ofNat 1, .ofNat 1), some (4, .ofNat 0))), (5, .inl ((.ofNat 2, .ofNat 76), some (5, .ofNat 0))), (6, .inl ((.ofNat 2, .ofNat 2), some (6, .ofNat 0)))], [], zyh8, 0, 0), [(5, .negSucc 1)], .ofNat 153), (zyx4r, zyh5), 4, 480),
  ((27, ([(0, .inr (.inr (.inl 3))), (1, .inr (.inr (.inl 1))), (2, .inl ((.ofNat 2, .ofNat 76), some (2, .ofNat 0))), (3, .inl ((.ofNat 2, .ofNat 2), some (3, .ofNat 0))), (4, .inl ((.ofNat 1, .ofNat 1), some (4, .ofNat 0))), (5, .inl ((.ofNat 2, .ofNat 76), some (5, .ofNat 0))), (6, .inl ((.ofNat 2, .ofNat 2), some (6, .ofNat 0)))], [], zyh9, 0, 0), [(5, .negSucc 1)], .ofNat 153), (zyx4r, zyh5), 4, 480),
  ((27, ([(0, .inr (.inr (.inl 3))), (1, .inr (.inr (.inl 1))), (2, .inl ((.ofNat 2, .ofNat 76), some (2, .ofNat 0))), (3, .inl ((.ofNat 2, .ofNat 2), some (3, .ofNat 0))), (4, .inl ((.ofNat 1, .ofNat 1), some (4, .ofNat 0))), (5, .inl ((.ofNat 2, .ofNat 76), some (5, .ofNat 0))), (6, .inl ((.ofNat 2, .ofNat 2), some (6, .ofNat 0)))], [], zyh10, 0, 0), [(5, .negSucc 1)], .ofNat 153), (zyx4r, zyh5), 4, 480),
  ((27, ([(0, .inr (.inr (.inl 3))), (1, .inr (.inr (.inl 1))), (2, .inl ((.ofNat 2, .ofNat 76), some (2, .ofNat 0))), (3, .inl ((.ofNat 2, .ofNat 2), some (3, .ofNat 0))), (4, .inl ((.ofNat 1, .ofNat 1), some (4, .ofNat 0))), (5, .inl ((.ofNat 2, .ofNat 76), some (5, .ofNat 0))), (6, .inl ((.ofNat 2, .ofNat 2), some (6, .ofNat 0)))], [], zyh11, 0, 0), [(5, .negSucc 1)], .ofNat 153), (zyx4r, zyh5), 4, 480),
  ((27, ([(0, .inr (.inr (.inl 3))), (1, .inr (.inr (.inl 1))), (2, .inl ((.ofNat 2, .ofNat 76), some (2, .ofNat 0))), (3, .inl ((.ofNat 2, .ofNat 2), some (3, .ofNat 0))), (4, .inl ((.ofNat 1, .ofNat 1), some (4, .ofNat 0))), (5, .inl ((.ofNat 2, .ofNat 76), some (5, .ofNat 0))), (6, .inl ((.ofNat 2, .ofNat 2), some (6, .ofNat 0)))], [], zyh12, 0, 0), [(5, .negSucc 1)], .ofNat 153), (zyx4r, zyh5), 4, 480),
  ((27, ([(0, .inr (.inr (.inl 3))), (1, .inr (.inr (.inl 1))), (2, .inl ((.ofNat 2, .ofNat 76), some (2, .ofNat 0))), (3, .inl ((.ofNat 2, .ofNat 2), some (3, .ofNat 0))), (4, .inl ((.ofNat 1, .ofNat 1), some (4, .ofNat 0))), (5, .inl ((.ofNat 2, .ofNat 76), some (5, .ofNat 0))), (6, .inl ((.ofNat 2, .ofNat 2), some (6, .ofNat 0)))], [], zyh13, 0, 0), [(5, .negSucc 1)], .ofNat 153), (zyx4r, zyh5), 4, 480),
  ((27, ([(0, .inr (.inr (.inl 3))), (1, .inr (.inr (.inl 1))), (2, .inl ((.ofNat 6, .ofNat 76), some (2, .ofNat 0))), (3, .inl ((.ofNat 0, .ofNat 0), some (3, .ofNat 0))), (4, .inl ((.ofNat 2, .ofNat 2), some (4, .ofNat 0))), (5, .inl ((.ofNat 6, .ofNat 76), some (5, .ofNat 0))), (6, .inl ((.ofNat 0, .ofNat 0), some (6, .ofNat 0)))], [], zyh6, 0, 0), [(5, .negSucc 1)], .ofNat 153), (zyx4r, zyh5), 4, 480),
  ((27, ([(0, .inr (.inr (.inl 3))), (1, .inr (.inr (.inl 1))), (2, .inl ((.ofNat 6, .ofNat 76), some (2, .ofNat 0))), (3, .inl ((.ofNat 0, .ofNat 0), some (3, .ofNat 0))), (4, .inl ((.ofNat 2, .ofNat 2), some (4, .ofNat 0))), (5, .inl ((.ofNat 6, .ofNat 76), some (5, .ofNat 0))), (6, .inl ((.ofNat 0, .ofNat 0), some (6, .ofNat 0)))], [], zyh7, 0, 0), [(5, .negSucc 1)], .ofNat 153), (zyx4r, zyh5), 4, 480),
  ((27, ([(0, .inr (.inr (.inl 3))), (1, .inr (.inr (.inl 1))), (2, .inl ((.ofNat 6, .ofNat 76), some (2, .ofNat 0))), (3, .inl ((.ofNat 0, .ofNat 0), some (3, .ofNat 0))), (4, .inl ((.ofNat 2, .ofNat 2), some (4, .ofNat 0))), (5, .inl ((.ofNat 6, .ofNat 76), some (5, .ofNat 0))), (6, .inl ((.ofNat 0, .ofNat 0), some (6, .ofNat 0)))], [], zyh8, 0, 0), [(5, .negSucc 1)], .ofNat 153), (zyx4r, zyh5), 4, 480),
  ((27, ([(0, .inr (.inr (.inl 3))), (1, .inr (.inr (.inl 1))), (2, .inl ((.ofNat 6, .ofNat 76), some (2, .ofNat 0))), (3, .inl ((.ofNat 0, .ofNat 0), some (3, .ofNat 0))), (4, .inl ((.ofNat 2, .ofNat 2), some (4, .ofNat 0))), (5, .inl ((.ofNat 6, .ofNat 76), some (5, .ofNat 0))), (6, .inl ((.ofNat 0, .ofNat 0), some (6, .ofNat 0)))], [], zyh9, 0, 0), [(5, .negSucc 1)], .ofNat 153), (zyx4r, zyh5), 4, 480),
  ((27, ([(0, .inr (.inr (.inl 3))), (1, .inr (.inr (.inl 1))), (2, .inl ((.ofNat 6, .ofNat 76), some (2, .ofNat 0))), (3, .inl ((.ofNat 0, .ofNat 0), some (3, .ofNat 0))), (4, .inl ((.ofNat 2, .ofNat 2), some (4, .ofNat 0))), (5, .inl ((.ofNat 6, .ofNat 76), some (5, .ofNat 0))), (6, .inl ((.ofNat 0, .ofNat 0), some (6, .ofNat 0)))], [], zyh10, 0, 0), [(5, .negSucc 1)], .ofNat 153), (zyx4r, zyh5), 4, 480),
  ((27, ([(0, .inr (.inr (.inl 3))), (1, .inr (.inr (.inl 1))), (2, .inl ((.ofNat 6, .ofNat 76), some (2, .ofNat 0))), (3, .inl ((.ofNat 0, .ofNat 0), some (3, .ofNat 0))), (4, .inl ((.ofNat 2, .ofNat 2), some (4, .ofNat 0))), (5, .inl ((.ofNat 6, .ofNat 76), some (5, .ofNat 0))), (6, .inl ((.ofNat 0, .ofNat 0), some (6, .ofNat 0)))], [], zyh11, 0, 0), [(5, .negSucc 1)], .ofNat 153), (zyx4r, zyh5), 4, 480),
  ((27, ([(0, .inr (.inr (.inl 3))), (1, .inr (.inr (.inl 1))), (2, .inl ((.ofNat 6, .ofNat 76), some (2, .ofNat 0))), (3, .inl ((.ofNat 0, .ofNat 0), some (3, .ofNat 0))), (4, .inl ((.ofNat 2, .ofNat 2), some (4, .ofNat 0))), (5, .inl ((.ofNat 6, .ofNat 76), some (5, .ofNat 0))), (6, .inl ((.ofNat 0, .ofNat 0), some (6, .ofNat 0)))], [], zyh12, 0, 0), [(5, .negSucc 1)], .ofNat 153), (zyx4r, zyh5), 4, 480),
  ((27, ([(0, .inr (.inr (.inl 3))), (1, .inr (.inr (.inl 1))), (2, .inl ((.ofNat 7, .ofNat 76), some (2, .ofNat 0))), (3, .inl ((.ofNat 1, .ofNat 1), some (3, .ofNat 0))), (4, .inl ((.ofNat 2, .ofNat 2), some (4, .ofNat 0))), (5, .inl ((.ofNat 7, .ofNat 76), some (5, .ofNat 0))), (6, .inl ((.ofNat 1, .ofNat 1), some (6, .ofNat 0)))], [], zyh6, 0, 0), [(5, .negSucc 1)], .ofNat 153), (zyx4r, zyh5), 4, 480),
  ((27, ([(0, .inr (.inr (.inl 3))), (1, .inr (.inr (.inl 1))), (2, .inl ((.ofNat 7, .ofNat 76), some (2, .ofNat 0))), (3, .inl ((.ofNat 1, .ofNat 1), some (3, .ofNat 0))), (4, .inl ((.ofNat 2, .ofNat 2), some (4, .ofNat 0))), (5, .inl ((.ofNat 7, .ofNat 76), some (5, .ofNat 0))), (6, .inl ((.ofNat 1, .ofNat 1), some (6, .ofNat 0)))], [], zyh7, 0, 0), [(5, .negSucc 1)], .ofNat 153), (zyx4r, zyh5), 4, 480),
  ((27, ([(0, .inr (.inr (.inl 3))), (1, .inr (.inr (.inl 1))), (2, .inl ((.ofNat 7, .ofNat 76), some (2, .ofNat 0))), (3, .inl ((.ofNat 1, .ofNat 1), some (3, .ofNat 0))), (4, .inl ((.ofNat 2, .ofNat 2), some (4, .ofNat 0))), (5, .inl ((.ofNat 7, .ofNat 76), some (5, .ofNat 0))), (6, .inl ((.ofNat 1, .ofNat 1), some (6, .ofNat 0)))], [], zyh8, 0, 0), [(5, .negSucc 1)], .ofNat 153), (zyx4r, zyh5), 4, 480),
  ((27, ([(0, .inr (.inr (.inl 3))), (1, .inr (.inr (.inl 1))), (2, .inl ((.ofNat 7, .ofNat 76), some (2, .ofNat 0))), (3, .inl ((.ofNat 1, .ofNat 1), some (3, .ofNat 0))), (4, .inl ((.ofNat 2, .ofNat 2), some (4, .ofNat 0))), (5, .inl ((.ofNat 7, .ofNat 76), some (5, .ofNat 0))), (6, .inl ((.ofNat 1, .ofNat 1), some (6, .ofNat 0)))], [], zyh9, 0, 0), [(5, .negSucc 1)], .ofNat 153), (zyx4r, zyh5), 4, 480),
  ((27, ([(0, .inr (.inr (.inl 3))), (1, .inr (.inr (.inl 1))), (2, .inl ((.ofNat 7, .ofNat 76), some (2, .ofNat 0))), (3, .inl ((.ofNat 1, .ofNat 1), some (3, .ofNat 0))), (4, .inl ((.ofNat 2, .ofNat 2), some (4, .ofNat 0))), (5, .inl ((.ofNat 7, .ofNat 76), some (5, .ofNat 0))), (6, .inl ((.ofNat 1, .ofNat 1), some (6, .ofNat 0)))], [], zyh10, 0, 0), [(5, .negSucc 1)], .ofNat 153), (zyx4r, zyh5), 4, 480),
  ((27, ([(0, .inr (.inr (.inl 3))), (1, .inr (.inr (.inl 1))), (2, .inl ((.ofNat 7, .ofNat 76), some (2, .ofNat 0))), (3, .inl ((.ofNat 1, .ofNat 1), some (3, .ofNat 0))), (4, .inl ((.ofNat 2, .ofNat 2), some (4, .ofNat 0))), (5, .inl ((.ofNat 7, .ofNat 76), some (5, .ofNat 0))), (6, .inl ((.ofNat 1, .ofNat 1), some (6, .ofNat 0)))], [], zyh11, 0, 0), [(5, .negSucc 1)], .ofNat 153), (zyx4r, zyh5), 4, 480),
  ((27, ([(0, .inr (.inr (.inl 3))), (1, .inr (.inr (.inl 1))), (2, .inl ((.ofNat 5, .ofNat 76), some (2, .ofNat 0))), (3, .inl ((.ofNat 2, .ofNat 2), some (3, .ofNat 0))), (4, .inl ((.ofNat 2, .ofNat 2), some (4, .ofNat 0))), (5, .inl ((.ofNat 5, .ofNat 76), some (5, .ofNat 0))), (6, .inl ((.ofNat 2, .ofNat 2), some (6, .ofNat 0)))], [], zyh6, 0, 0), [(5, .negSucc 1)], .ofNat 153), (zyx4r, zyh5), 4, 480),
  ((27, ([(0, .inr (.inr (.inl 3))), (1, .inr (.inr (.inl 1))), (2, .inl ((.ofNat 5, .ofNat 76), some (2, .ofNat 0))), (3, .inl ((.ofNat 2, .ofNat 2), some (3, .ofNat 0))), (4, .inl ((.ofNat 2, .ofNat 2), some (4, .ofNat 0))), (5, .inl ((.ofNat 5, .ofNat 76), some (5, .ofNat 0))), (6, .inl ((.ofNat 2, .ofNat 2), some (6, .ofNat 0)))], [], zyh7, 0, 0), [(5, .negSucc 1)], .ofNat 153), (zyx4r, zyh5), 4, 480),
  ((27, ([(0, .inr (.inr (.inl 3))), (1, .inr (.inr (.inl 1))), (2, .inl ((.ofNat 5, .ofNat 76), some (2, .ofNat 0))), (3, .inl ((.ofNat 2, .ofNat 2), some (3, .ofNat 0))), (4, .inl ((.ofNat 2, .ofNat 2), some (4, .ofNat 0))), (5, .inl ((.ofNat 5, .ofNat 76), some (5, .ofNat 0))), (6, .inl ((.ofNat 2, .ofNat 2), some (6, .ofNat 0)))], [], zyh8, 0, 0), [(5, .negSucc 1)], .ofNat 153), (zyx4r, zyh5), 4, 480),
  ((27, ([(0, .inr (.inr (.inl 3))), (1, .inr (.inr (.inl 1))), (2, .inl ((.ofNat 5, .ofNat 76), some (2, .ofNat 0))), (3, .inl ((.ofNat 2, .ofNat 2), some (3, .ofNat 0))), (4, .inl ((.ofNat 2, .ofNat 2), some (4, .ofNat 0))), (5, .inl ((.ofNat 5, .ofNat 76), some (5, .ofNat 0))), (6, .inl ((.ofNat 2, .ofNat 2), some (6, .ofNat 0)))], [], zyh9, 0, 0), [(5, .negSucc 1)], .ofNat 153), (zyx4r, zyh5), 4, 480),
  ((27, ([(0, .inr (.inr (.inl 3))), (1, .inr (.inr (.inl 1))), (2, .inl ((.ofNat 5, .ofNat 76), some (2, .ofNat 0))), (3, .inl ((.ofNat 2, .ofNat 2), some (3, .ofNat 0))), (4, .inl ((.ofNat 2, .ofNat 2), some (4, .ofNat 0))), (5, .inl ((.ofNat 5, .ofNat 76), some (5, .ofNat 0))), (6, .inl ((.ofNat 2, .ofNat 2), some (6, .ofNat 0)))], [], zyh10, 0, 0), [(5, .negSucc 1)], .ofNat 153), (zyx4r, zyh5), 4, 480),
  ((27, ([(0, .inr (.inr (.inl 3))), (1, .inr (.inr (.inl 1))), (2, .inl ((.ofNat 5, .ofNat 76), some (2, .ofNat 0))), (3, .inl ((.ofNat 2, .ofNat 2), some (3, .ofNat 0))), (4, .inl ((.ofNat 2, .ofNat 2), some (4, .ofNat 0))), (5, .inl ((.ofNat 5, .ofNat 76), some (5, .ofNat 0))), (6, .inl ((.ofNat 2, .ofNat 2), some (6, .ofNat 0)))], [], zyh11, 0, 0), [(5, .negSucc 1)], .ofNat 153), (zyx4r, zyh5), 4, 480),
  ((27, ([(0, .inr (.inr (.inl 3))), (1, .inr (.inr (.inl 1))), (2, .inl ((.ofNat 5, .ofNat 76), some (2, .ofNat 0))), (3, .inl ((.ofNat 2, .ofNat 2), some (3, .ofNat 0))), (4, .inl ((.ofNat 2, .ofNat 2), some (4, .ofNat 0))), (5, .inl ((.ofNat 5, .ofNat 76), some (5, .ofNat 0))), (6, .inl ((.ofNat 2, .ofNat 2), some (6, .ofNat 0)))], [], zyh12, 0, 0), [(5, .negSucc 1)], .ofNat 153), (zyx4r, zyh5), 4, 480),
  ((27, ([(0, .inr (.inr (.inl 3))), (1, .inr (.inr (.inl 1))), (2, .inl ((.ofNat 9, .ofNat 76), some (2, .ofNat 0))), (3, .inl ((.ofNat 0, .ofNat 0), some (3, .ofNat 0))), (4, .inl ((.ofNat 3, .ofNat 3), some (4, .ofNat 0))), (5, .inl ((.ofNat 9, .ofNat 76), some (5, .ofNat 0))), (6, .inl ((.ofNat 0, .ofNat 0), some (6, .ofNat 0)))], [], zyh6, 0, 0), [(5, .negSucc 1)], .ofNat 153), (zyx4r, zyh5), 4, 480),
  ((27, ([(0, .inr (.inr (.inl 3))), (1, .inr (.inr (.inl 1))), (2, .inl ((.ofNat 9, .ofNat 76), some (2, .ofNat 0))), (3, .inl ((.ofNat 0, .ofNat 0), some (3, .ofNat 0))), (4, .inl ((.ofNat 3, .ofNat 3), some (4, .ofNat 0))), (5, .inl ((.ofNat 9, .ofNat 76), some (5, .ofNat 0))), (6, .inl ((.ofNat 0, .ofNat 0), some (6, .ofNat 0)))], [], zyh7, 0, 0), [(5, .negSucc 1)], .ofNat 153), (zyx4r, zyh5), 4, 480),
  ((27, ([(0, .inr (.inr (.inl 3))), (1, .inr (.inr (.inl 1))), (2, .inl ((.ofNat 9, .ofNat 76), some (2, .ofNat 0))), (3, .inl ((.ofNat 0, .ofNat 0), some (3, .ofNat 0))), (4, .inl ((.ofNat 3, .ofNat 3), some (4, .ofNat 0))), (5, .inl ((.ofNat 9, .ofNat 76), some (5, .ofNat 0))), (6, .inl ((.ofNat 0, .ofNat 0), some (6, .ofNat 0)))], [], zyh8, 0, 0), [(5, .negSucc 1)], .ofNat 153), (zyx4r, zyh5), 4, 480),
  ((27, ([(0, .inr (.inr (.inl 3))), (1, .inr (.inr (.inl 1))), (2, .inl ((.ofNat 9, .ofNat 76), some (2, .ofNat 0))), (3, .inl ((.ofNat 0, .ofNat 0), some (3, .ofNat 0))), (4, .inl ((.ofNat 3, .ofNat 3), some (4, .ofNat 0))), (5, .inl ((.ofNat 9, .ofNat 76), some (5, .ofNat 0))), (6, .inl ((.ofNat 0, .ofNat 0), some (6, .ofNat 0)))], [], zyh9, 0, 0), [(5, .negSucc 1)], .ofNat 153), (zyx4r, zyh5), 4, 480),
  ((27, ([(0, .inr (.inr (.inl 3))), (1, .inr (.inr (.inl 1))), (2, .inl ((.ofNat 9, .ofNat 76), some (2, .ofNat 0))), (3, .inl ((.ofNat 0, .ofNat 0), some (3, .ofNat 0))), (4, .inl ((.ofNat 3, .ofNat 3), some (4, .ofNat 0))), (5, .inl ((.ofNat 9, .ofNat 76), some (5, .ofNat 0))), (6, .inl ((.ofNat 0, .ofNat 0), some (6, .ofNat 0)))], [], zyh10, 0, 0), [(5, .negSucc 1)], .ofNat 153), (zyx4r, zyh5), 4, 480),
  ((27, ([(0, .inr (.inr (.inl 3))), (1, .inr (.inr (.inl 1))), (2, .inl ((.ofNat 9, .ofNat 76), some (2, .ofNat 0))), (3, .inl ((.ofNat 0, .ofNat 0), some (3, .ofNat 0))), (4, .inl ((.ofNat 3, .ofNat 3), some (4, .ofNat 0))), (5, .inl ((.ofNat 9, .ofNat 76), some (5, .ofNat 0))), (6, .inl ((.ofNat 0, .ofNat 0), some (6, .ofNat 0)))], [], zyh11, 0, 0), [(5, .negSucc 1)], .ofNat 153), (zyx4r, zyh5), 4, 480),
  ((27, ([(0, .inr (.inr (.inl 3))), (1, .inr (.inr (.inl 1))), (2, .inl ((.ofNat 10, .ofNat 76), some (2, .ofNat 0))), (3, .inl ((.ofNat 1, .ofNat 1), some (3, .ofNat 0))), (4, .inl ((.ofNat 3, .ofNat 3), some (4, .ofNat 0))), (5, .inl ((.ofNat 10, .ofNat 76), some (5, .ofNat 0))), (6, .inl ((.ofNat 1, .ofNat 1), some (6, .ofNat 0)))], [], zyh6, 0, 0), [(5, .negSucc 1)], .ofNat 153), (zyx4r, zyh5), 4, 480),
  ((27, ([(0, .inr (.inr (.inl 3))), (1, .inr (.inr (.inl 1))), (2, .inl ((.ofNat 10, .ofNat 76), some (2, .ofNat 0))), (3, .inl ((.ofNat 1, .ofNat 1), some (3, .ofNat 0))), (4, .inl ((.ofNat 3, .ofNat 3), some (4, .ofNat 0))), (5, .inl ((.ofNat 10, .ofNat 76), some (5, .ofNat 0))), (6, .inl ((.ofNat 1, .ofNat 1), some (6, .ofNat 0)))], [], zyh7, 0, 0), [(5, .negSucc 1)], .ofNat 153), (zyx4r, zyh5), 4, 480),
  ((27, ([(0, .inr (.inr (.inl 3))), (1, .inr (.inr (.inl 1))), (2, .inl ((.ofNat 10, .ofNat 76), some (2, .ofNat 0))), (3, .inl ((.ofNat 1, .ofNat 1), some (3, .ofNat 0))), (4, .inl ((.ofNat 3, .ofNat 3), some (4, .ofNat 0))), (5, .inl ((.ofNat 10, .ofNat 76), some (5, .ofNat 0))), (6, .inl ((.ofNat 1, .ofNat 1), some (6, .ofNat 0)))], [], zyh8, 0, 0), [(5, .negSucc 1)], .ofNat 153), (zyx4r, zyh5), 4, 480),
  ((27, ([(0, .inr (.inr (.inl 3))), (1, .inr (.inr (.inl 1))), (2, .inl ((.ofNat 10, .ofNat 76), some (2, .ofNat 0))), (3, .inl ((.ofNat 1, .ofNat 1), some (3, .ofNat 0))), (4, .inl ((.ofNat 3, .ofNat 3), some (4, .ofNat 0))), (5, .inl ((.ofNat 10, .ofNat 76), some (5, .ofNat 0))), (6, .inl ((.ofNat 1, .ofNat 1), some (6, .ofNat 0)))], [], zyh9, 0, 0), [(5, .negSucc 1)], .ofNat 153), (zyx4r, zyh5), 4, 480),
  ((27, ([(0, .inr (.inr (.inl 3))), (1, .inr (.inr (.inl 1))), (2, .inl ((.ofNat 10, .ofNat 76), some (2, .ofNat 0))), (3, .inl ((.ofNat 1, .ofNat 1), some (3, .ofNat 0))), (4, .inl ((.ofNat 3, .ofNat 3), some (4, .ofNat 0))), (5, .inl ((.ofNat 10, .ofNat 76), some (5, .ofNat 0))), (6, .inl ((.ofNat 1, .ofNat 1), some (6, .ofNat 0)))], [], zyh10, 0, 0), [(5, .negSucc 1)], .ofNat 153), (zyx4r, zyh5), 4, 480),
  ((27, ([(0, .inr (.inr (.inl 3))), (1, .inr (.inr (.inl 1))), (2, .inl ((.ofNat 8, .ofNat 76), some (2, .ofNat 0))), (3, .inl ((.ofNat 2, .ofNat 2), some (3, .ofNat 0))), (4, .inl ((.ofNat 3, .ofNat 3), some (4, .ofNat 0))), (5, .inl ((.ofNat 8, .ofNat 76), some (5, .ofNat 0))), (6, .inl ((.ofNat 2, .ofNat 2), some (6, .ofNat 0)))], [], zyh6, 0, 0), [(5, .negSucc 1)], .ofNat 153), (zyx4r, zyh5), 4, 480),
  ((27, ([(0, .inr (.inr (.inl 3))), (1, .inr (.inr (.inl 1))), (2, .inl ((.ofNat 8, .ofNat 76), some (2, .ofNat 0))), (3, .inl ((.ofNat 2, .ofNat 2), some (3, .ofNat 0))), (4, .inl ((.ofNat 3, .ofNat 3), some (4, .ofNat 0))), (5, .inl ((.ofNat 8, .ofNat 76), some (5, .ofNat 0))), (6, .inl ((.ofNat 2, .ofNat 2), some (6, .ofNat 0)))], [], zyh7, 0, 0), [(5, .negSucc 1)], .ofNat 153), (zyx4r, zyh5), 4, 480),
  ((27, ([(0, .inr (.inr (.inl 3))), (1, .inr (.inr (.inl 1))), (2, .inl ((.ofNat 8, .ofNat 76), some (2, .ofNat 0))), (3, .inl ((.ofNat 2, .ofNat 2), some (3, .ofNat 0))), (4, .inl ((.ofNat 3, .ofNat 3), some (4, .ofNat 0))), (5, .inl ((.ofNat 8, .ofNat 76), some (5, .ofNat 0))), (6, .inl ((.ofNat 2, .ofNat 2), some (6, .ofNat 0)))], [], zyh8, 0, 0), [(5, .negSucc 1)], .ofNat 153), (zyx4r, zyh5), 4, 480),
  ((27, ([(0, .inr (.inr (.inl 3))), (1, .inr (.inr (.inl 1))), (2, .inl ((.ofNat 8, .ofNat 76), some (2, .ofNat 0))), (3, .inl ((.ofNat 2, .ofNat 2), some (3, .ofNat 0))), (4, .inl ((.ofNat 3, .ofNat 3), some (4, .ofNat 0))), (5, .inl ((.ofNat 8, .ofNat 76), some (5, .ofNat 0))), (6, .inl ((.ofNat 2, .ofNat 2), some (6, .ofNat 0)))], [], zyh9, 0, 0), [(5, .negSucc 1)], .ofNat 153), (zyx4r, zyh5), 4, 480),
  ((27, ([(0, .inr (.inr (.inl 3))), (1, .inr (.inr (.inl 1))), (2, .inl ((.ofNat 8, .ofNat 76), some (2, .ofNat 0))), (3, .inl ((.ofNat 2, .ofNat 2), some (3, .ofNat 0))), (4, .inl ((.ofNat 3, .ofNat 3), some (4, .ofNat 0))), (5, .inl ((.ofNat 8, .ofNat 76), some (5, .ofNat 0))), (6, .inl ((.ofNat 2, .ofNat 2), some (6, .ofNat 0)))], [], zyh10, 0, 0), [(5, .negSucc 1)], .ofNat 153), (zyx4r, zyh5), 4, 480),
  ((27, ([(0, .inr (.inr (.inl 3))), (1, .inr (.inr (.inl 1))), (2, .inl ((.ofNat 8, .ofNat 76), some (2, .ofNat 0))), (3, .inl ((.ofNat 2, .ofNat 2), some (3, .ofNat 0))), (4, .inl ((.ofNat 3, .ofNat 3), some (4, .ofNat 0))), (5, .inl ((.ofNat 8, .ofNat 76), some (5, .ofNat 0))), (6, .inl ((.ofNat 2, .ofNat 2), some (6, .ofNat 0)))], [], zyh11, 0, 0), [(5, .negSucc 1)], .ofNat 153), (zyx4r, zyh5), 4, 480),
  ((27, ([(0, .inr (.inr (.inl 3))), (1, .inr (.inr (.inl 1))), (2, .inl ((.ofNat 12, .ofNat 76), some (2, .ofNat 0))), (3, .inl ((.ofNat 0, .ofNat 0), some (3, .ofNat 0))), (4, .inl ((.ofNat 4, .ofNat 4), some (4, .ofNat 0))), (5, .inl ((.ofNat 12, .ofNat 76), some (5, .ofNat 0))), (6, .inl ((.ofNat 0, .ofNat 0), some (6, .ofNat 0)))], [], zyh6, 0, 0), [(5, .negSucc 1)], .ofNat 153), (zyx4r, zyh5), 4, 480),
  ((27, ([(0, .inr (.inr (.inl 3))), (1, .inr (.inr (.inl 1))), (2, .inl ((.ofNat 12, .ofNat 76), some (2, .ofNat 0))), (3, .inl ((.ofNat 0, .ofNat 0), some (3, .ofNat 0))), (4, .inl ((.ofNat 4, .ofNat 4), some (4, .ofNat 0))), (5, .inl ((.ofNat 12, .ofNat 76), some (5, .ofNat 0))), (6, .inl ((.ofNat 0, .ofNat 0), some (6, .ofNat 0)))], [], zyh7, 0, 0), [(5, .negSucc 1)], .ofNat 153), (zyx4r, zyh5), 4, 480),
  ((27, ([(0, .inr (.inr (.inl 3))), (1, .inr (.inr (.inl 1))), (2, .inl ((.ofNat 12, .ofNat 76), some (2, .ofNat 0))), (3, .inl ((.ofNat 0, .ofNat 0), some (3, .ofNat 0))), (4, .inl ((.ofNat 4, .ofNat 4), some (4, .ofNat 0))), (5, .inl ((.ofNat 12, .ofNat 76), some (5, .ofNat 0))), (6, .inl ((.ofNat 0, .ofNat 0), some (6, .ofNat 0)))], [], zyh8, 0, 0), [(5, .negSucc 1)], .ofNat 153), (zyx4r, zyh5), 4, 480),
  ((27, ([(0, .inr (.inr (.inl 3))), (1, .inr (.inr (.inl 1))), (2, .inl ((.ofNat 12, .ofNat 76), some (2, .ofNat 0))), (3, .inl ((.ofNat 0, .ofNat 0), some (3, .ofNat 0))), (4, .inl ((.ofNat 4, .ofNat 4), some (4, .ofNat 0))), (5, .inl ((.ofNat 12, .ofNat 76), some (5, .ofNat 0))), (6, .inl ((.ofNat 0, .ofNat 0), some (6, .ofNat 0)))], [], zyh9, 0, 0), [(5, .negSucc 1)], .ofNat 153), (zyx4r, zyh5), 4, 480),
  ((27, ([(0, .inr (.inr (.inl 3))), (1, .inr (.inr (.inl 1))), (2, .inl ((.ofNat 12, .ofNat 76), some (2, .ofNat 0))), (3, .inl ((.ofNat 0, .ofNat 0), some (3, .ofNat 0))), (4, .inl ((.ofNat 4, .ofNat 4), some (4, .ofNat 0))), (5, .inl ((.ofNat 12, .ofNat 76), some (5, .ofNat 0))), (6, .inl ((.ofNat 0, .ofNat 0), some (6, .ofNat 0)))], [], zyh10, 0, 0), [(5, .negSucc 1)], .ofNat 153), (zyx4r, zyh5), 4, 480),
  ((27, ([(0, .inr (.inr (.inl 3))), (1, .inr (.inr (.inl 1))), (2, .inl ((.ofNat 13, .ofNat 76), some (2, .ofNat 0))), (3, .inl ((.ofNat 1, .ofNat 1), some (3, .ofNat 0))), (4, .inl ((.ofNat 4, .ofNat 4), some (4, .ofNat 0))), (5, .inl ((.ofNat 13, .ofNat 76), some (5, .ofNat 0))), (6, .inl ((.ofNat 1, .ofNat 1), some (6, .ofNat 0)))], [], zyh6, 0, 0), [(5, .negSucc 1)], .ofNat 153), (zyx4r, zyh5), 4, 480),
  ((27, ([(0, .inr (.inr (.inl 3))), (1, .inr (.inr (.inl 1))), (2, .inl ((.ofNat 13, .ofNat 76), some (2, .ofNat 0))), (3, .inl ((.ofNat 1, .ofNat 1), some (3, .ofNat 0))), (4, .inl ((.ofNat 4, .ofNat 4), some (4, .ofNat 0))), (5, .inl ((.ofNat 13, .ofNat 76), some (5, .ofNat 0))), (6, .inl ((.ofNat 1, .ofNat 1), some (6, .ofNat 0)))], [], zyh7, 0, 0), [(5, .negSucc 1)], .ofNat 153), (zyx4r, zyh5), 4, 480),
  ((27, ([(0, .inr (.inr (.inl 3))), (1, .inr (.inr (.inl 1))), (2, .inl ((.ofNat 13, .ofNat 76), some (2, .ofNat 0))), (3, .inl ((.ofNat 1, .ofNat 1), some (3, .ofNat 0))), (4, .inl ((.ofNat 4, .ofNat 4), some (4, .ofNat 0))), (5, .inl ((.ofNat 13, .ofNat 76), some (5, .ofNat 0))), (6, .inl ((.ofNat 1, .ofNat 1), some (6, .ofNat 0)))], [], zyh8, 0, 0), [(5, .negSucc 1)], .ofNat 153), (zyx4r, zyh5), 4, 480),
  ((27, ([(0, .inr (.inr (.inl 3))), (1, .inr (.inr (.inl 1))), (2, .inl ((.ofNat 13, .ofNat 76), some (2, .ofNat 0))), (3, .inl ((.ofNat 1, .ofNat 1), some (3, .ofNat 0))), (4, .inl ((.ofNat 4, .ofNat 4), some (4, .ofNat 0))), (5, .inl ((.ofNat 13, .ofNat 76), some (5, .ofNat 0))), (6, .inl ((.ofNat 1, .ofNat 1), some (6, .ofNat 0)))], [], zyh9, 0, 0), [(5, .negSucc 1)], .ofNat 153), (zyx4r, zyh5), 4, 480),
  ((27, ([(0, .inr (.inr (.inl 3))), (1, .inr (.inr (.inl 1))), (2, .inl ((.ofNat 11, .ofNat 76), some (2, .ofNat 0))), (3, .inl ((.ofNat 2, .ofNat 2), some (3, .ofNat 0))), (4, .inl ((.ofNat 4, .ofNat 4), some (4, .ofNat 0))), (5, .inl ((.ofNat 11, .ofNat 76), some (5, .ofNat 0))), (6, .inl ((.ofNat 2, .ofNat 2), some (6, .ofNat 0)))], [], zyh6, 0, 0), [(5, .negSucc 1)], .ofNat 153), (zyx4r, zyh5), 4, 480),
  ((27, ([(0, .inr (.inr (.inl 3))), (1, .inr (.inr (.inl 1))), (2, .inl ((.ofNat 11, .ofNat 76), some (2, .ofNat 0))), (3, .inl ((.ofNat 2, .ofNat 2), some (3, .ofNat 0))), (4, .inl ((.ofNat 4, .ofNat 4), some (4, .ofNat 0))), (5, .inl ((.ofNat 11, .ofNat 76), some (5, .ofNat 0))), (6, .inl ((.ofNat 2, .ofNat 2), some (6, .ofNat 0)))], [], zyh7, 0, 0), [(5, .negSucc 1)], .ofNat 153), (zyx4r, zyh5), 4, 480),
  ((27, ([(0, .inr (.inr (.inl 3))), (1, .inr (.inr (.inl 1))), (2, .inl ((.ofNat 11, .ofNat 76), some (2, .ofNat 0))), (3, .inl ((.ofNat 2, .ofNat 2), some (3, .ofNat 0))), (4, .inl ((.ofNat 4, .ofNat 4), some (4, .ofNat 0))), (5, .inl ((.ofNat 11, .ofNat 76), some (5, .ofNat 0))), (6, .inl ((.ofNat 2, .ofNat 2), some (6, .ofNat 0)))], [], zyh8, 0, 0), [(5, .negSucc 1)], .ofNat 153), (zyx4r, zyh5), 4, 480),
  ((27, ([(0, .inr (.inr (.inl 3))), (1, .inr (.inr (.inl 1))), (2, .inl ((.ofNat 11, .ofNat 76), some (2, .ofNat 0))), (3, .inl ((.ofNat 2, .ofNat 2), some (3, .ofNat 0))), (4, .inl ((.ofNat 4, .ofNat 4), some (4, .ofNat 0))), (5, .inl ((.ofNat 11, .ofNat 76), some (5, .ofNat 0))), (6, .inl ((.ofNat 2, .ofNat 2), some (6, .ofNat 0)))], [], zyh9, 0, 0), [(5, .negSucc 1)], .ofNat 153), (zyx4r, zyh5), 4, 480),
  ((27, ([(0, .inr (.inr (.inl 3))), (1, .inr (.inr (.inl 1))), (2, .inl ((.ofNat 11, .ofNat 76), some (2, .ofNat 0))), (3, .inl ((.ofNat 2, .ofNat 2), some (3, .ofNat 0))), (4, .inl ((.ofNat 4, .ofNat 4), some (4, .ofNat 0))), (5, .inl ((.ofNat 11, .ofNat 76), some (5, .ofNat 0))), (6, .inl ((.ofNat 2, .ofNat 2), some (6, .ofNat 0)))], [], zyh10, 0, 0), [(5, .negSucc 1)], .ofNat 153), (zyx4r, zyh5), 4, 480),
  ((27, ([(0, .inr (.inr (.inl 3))), (1, .inr (.inr (.inl 1))), (2, .inl ((.ofNat 15, .ofNat 76), some (2, .ofNat 0))), (3, .inl ((.ofNat 0, .ofNat 0), some (3, .ofNat 0))), (4, .inl ((.ofNat 5, .ofNat 5), some (4, .ofNat 0))), (5, .inl ((.ofNat 15, .ofNat 76), some (5, .ofNat 0))), (6, .inl ((.ofNat 0, .ofNat 0), some (6, .ofNat 0)))], [], zyh6, 0, 0), [(5, .negSucc 1)], .ofNat 153), (zyx4r, zyh5), 4, 480),
  ((27, ([(0, .inr (.inr (.inl 3))), (1, .inr (.inr (.inl 1))), (2, .inl ((.ofNat 15, .ofNat 76), some (2, .ofNat 0))), (3, .inl ((.ofNat 0, .ofNat 0), some (3, .ofNat 0))), (4, .inl ((.ofNat 5, .ofNat 5), some (4, .ofNat 0))), (5, .inl ((.ofNat 15, .ofNat 76), some (5, .ofNat 0))), (6, .inl ((.ofNat 0, .ofNat 0), some (6, .ofNat 0)))], [], zyh7, 0, 0), [(5, .negSucc 1)], .ofNat 153), (zyx4r, zyh5), 4, 480),
  ((27, ([(0, .inr (.inr (.inl 3))), (1, .inr (.inr (.inl 1))), (2, .inl ((.ofNat 15, .ofNat 76), some (2, .ofNat 0))), (3, .inl ((.ofNat 0, .ofNat 0), some (3, .ofNat 0))), (4, .inl ((.ofNat 5, .ofNat 5), some (4, .ofNat 0))), (5, .inl ((.ofNat 15, .ofNat 76), some (5, .ofNat 0))), (6, .inl ((.ofNat 0, .ofNat 0), some (6, .ofNat 0)))], [], zyh8, 0, 0), [(5, .negSucc 1)], .ofNat 153), (zyx4r, zyh5), 4, 480),
  ((27, ([(0, .inr (.inr (.inl 3))), (1, .inr (.inr (.inl 1))), (2, .inl ((.ofNat 15, .ofNat 76), some (2, .ofNat 0))), (3, .inl ((.ofNat 0, .ofNat 0), some (3, .ofNat 0))), (4, .inl ((.ofNat 5, .ofNat 5), some (4, .ofNat 0))), (5, .inl ((.ofNat 15, .ofNat 76), some (5, .ofNat 0))), (6, .inl ((.ofNat 0, .ofNat 0), some (6, .ofNat 0)))], [], zyh9, 0, 0), [(5, .negSucc 1)], .ofNat 153), (zyx4r, zyh5), 4, 480),
  ((27, ([(0, .inr (.inr (.inl 3))), (1, .inr (.inr (.inl 1))), (2, .inl ((.ofNat 16, .ofNat 76), some (2, .ofNat 0))), (3, .inl ((.ofNat 1, .ofNat 1), some (3, .ofNat 0))), (4, .inl ((.ofNat 5, .ofNat 5), some (4, .ofNat 0))), (5, .inl ((.ofNat 16, .ofNat 76), some (5, .ofNat 0))), (6, .inl ((.ofNat 1, .ofNat 1), some (6, .ofNat 0)))], [], zyh6, 0, 0), [(5, .negSucc 1)], .ofNat 153), (zyx4r, zyh5), 4, 480),
  ((27, ([(0, .inr (.inr (.inl 3))), (1, .inr (.inr (.inl 1))), (2, .inl ((.ofNat 16, .ofNat 76), some (2, .ofNat 0))), (3, .inl ((.ofNat 1, .ofNat 1), some (3, .ofNat 0))), (4, .inl ((.ofNat 5, .ofNat 5), some (4, .ofNat 0))), (5, .inl ((.ofNat 16, .ofNat 76), some (5, .ofNat 0))), (6, .inl ((.ofNat 1, .ofNat 1), some (6, .ofNat 0)))], [], zyh7, 0, 0), [(5, .negSucc 1)], .ofNat 153), (zyx4r, zyh5), 4, 480),
  ((27, ([(0, .inr (.inr (.inl 3))), (1, .inr (.inr (.inl 1))), (2, .inl ((.ofNat 16, .ofNat 76), some (2, .ofNat 0))), (3, .inl ((.ofNat 1, .ofNat 1), some (3, .ofNat 0))), (4, .inl ((.ofNat 5, .ofNat 5), some (4, .ofNat 0))), (5, .inl ((.ofNat 16, .ofNat 76), some (5, .ofNat 0))), (6, .inl ((.ofNat 1, .ofNat 1), some (6, .ofNat 0)))], [], zyh8, 0, 0), [(5, .negSucc 1)], .ofNat 153), (zyx4r, zyh5), 4, 480),
  ((27, ([(0, .inr (.inr (.inl 3))), (1, .inr (.inr (.inl 1))), (2, .inl ((.ofNat 14, .ofNat 76), some (2, .ofNat 0))), (3, .inl ((.ofNat 2, .ofNat 2), some (3, .ofNat 0))), (4, .inl ((.ofNat 5, .ofNat 5), some (4, .ofNat 0))), (5, .inl ((.ofNat 14, .ofNat 76), some (5, .ofNat 0))), (6, .inl ((.ofNat 2, .ofNat 2), some (6, .ofNat 0)))], [], zyh6, 0, 0), [(5, .negSucc 1)], .ofNat 153), (zyx4r, zyh5), 4, 480),
  ((27, ([(0, .inr (.inr (.inl 3))), (1, .inr (.inr (.inl 1))), (2, .inl ((.ofNat 14, .ofNat 76), some (2, .ofNat 0))), (3, .inl ((.ofNat 2, .ofNat 2), some (3, .ofNat 0))), (4, .inl ((.ofNat 5, .ofNat 5), some (4, .ofNat 0))), (5, .inl ((.ofNat 14, .ofNat 76), some (5, .ofNat 0))), (6, .inl ((.ofNat 2, .ofNat 2), some (6, .ofNat 0)))], [], zyh7, 0, 0), [(5, .negSucc 1)], .ofNat 153), (zyx4r, zyh5), 4, 480),
  ((27, ([(0, .inr (.inr (.inl 3))), (1, .inr (.inr (.inl 1))), (2, .inl ((.ofNat 14, .ofNat 76), some (2, .ofNat 0))), (3, .inl ((.ofNat 2, .ofNat 2), some (3, .ofNat 0))), (4, .inl ((.ofNat 5, .ofNat 5), some (4, .ofNat 0))), (5, .inl ((.ofNat 14, .ofNat 76), some (5, .ofNat 0))), (6, .inl ((.ofNat 2, .ofNat 2), some (6, .ofNat 0)))], [], zyh8, 0, 0), [(5, .negSucc 1)], .ofNat 153), (zyx4r, zyh5), 4, 480),
  ((27, ([(0, .inr (.inr (.inl 3))), (1, .inr (.inr (.inl 1))), (2, .inl ((.ofNat 14, .ofNat 76), some (2, .ofNat 0))), (3, .inl ((.ofNat 2, .ofNat 2), some (3, .ofNat 0))), (4, .inl ((.ofNat 5, .ofNat 5), some (4, .ofNat 0))), (5, .inl ((.ofNat 14, .ofNat 76), some (5, .ofNat 0))), (6, .inl ((.ofNat 2, .ofNat 2), some (6, .ofNat 0)))], [], zyh9, 0, 0), [(5, .negSucc 1)], .ofNat 153), (zyx4r, zyh5), 4, 480),
  ((27, ([(0, .inr (.inr (.inl 3))), (1, .inr (.inr (.inl 1))), (2, .inl ((.ofNat 18, .ofNat 76), some (2, .ofNat 0))), (3, .inl ((.ofNat 0, .ofNat 0), some (3, .ofNat 0))), (4, .inl ((.ofNat 6, .ofNat 6), some (4, .ofNat 0))), (5, .inl ((.ofNat 18, .ofNat 76), some (5, .ofNat 0))), (6, .inl ((.ofNat 0, .ofNat 0), some (6, .ofNat 0)))], [], zyh6, 0, 0), [(5, .negSucc 1)], .ofNat 153), (zyx4r, zyh5), 4, 480),
  ((27, ([(0, .inr (.inr (.inl 3))), (1, .inr (.inr (.inl 1))), (2, .inl ((.ofNat 18, .ofNat 76), some (2, .ofNat 0))), (3, .inl ((.ofNat 0, .ofNat 0), some (3, .ofNat 0))), (4, .inl ((.ofNat 6, .ofNat 6), some (4, .ofNat 0))), (5, .inl ((.ofNat 18, .ofNat 76), some (5, .ofNat 0))), (6, .inl ((.ofNat 0, .ofNat 0), some (6, .ofNat 0)))], [], zyh7, 0, 0), [(5, .negSucc 1)], .ofNat 153), (zyx4r, zyh5), 4, 480),
  ((27, ([(0, .inr (.inr (.inl 3))), (1, .inr (.inr (.inl 1))), (2, .inl ((.ofNat 18, .ofNat 76), some (2, .ofNat 0))), (3, .inl ((.ofNat 0, .ofNat 0), some (3, .ofNat 0))), (4, .inl ((.ofNat 6, .ofNat 6), some (4, .ofNat 0))), (5, .inl ((.ofNat 18, .ofNat 76), some (5, .ofNat 0))), (6, .inl ((.ofNat 0, .ofNat 0), some (6, .ofNat 0)))], [], zyh8, 0, 0), [(5, .negSucc 1)], .ofNat 153), (zyx4r, zyh5), 4, 480),
  ((27, ([(0, .inr (.inr (.inl 3))), (1, .inr (.inr (.inl 1))), (2, .inl ((.ofNat 19, .ofNat 76), some (2, .ofNat 0))), (3, .inl ((.ofNat 1, .ofNat 1), some (3, .ofNat 0))), (4, .inl ((.ofNat 6, .ofNat 6), some (4, .ofNat 0))), (5, .inl ((.ofNat 19, .ofNat 76), some (5, .ofNat 0))), (6, .inl ((.ofNat 1, .ofNat 1), some (6, .ofNat 0)))], [], zyh6, 0, 0), [(5, .negSucc 1)], .ofNat 153), (zyx4r, zyh5), 4, 480),
  ((27, ([(0, .inr (.inr (.inl 3))), (1, .inr (.inr (.inl 1))), (2, .inl ((.ofNat 19, .ofNat 76), some (2, .ofNat 0))), (3, .inl ((.ofNat 1, .ofNat 1), some (3, .ofNat 0))), (4, .inl ((.ofNat 6, .ofNat 6), some (4, .ofNat 0))), (5, .inl ((.ofNat 19, .ofNat 76), some (5, .ofNat 0))), (6, .inl ((.ofNat 1, .ofNat 1), some (6, .ofNat 0)))], [], zyh7, 0, 0), [(5, .negSucc 1)], .ofNat 153), (zyx4r, zyh5), 4, 480),
  ((27, ([(0, .inr (.inr (.inl 3))), (1, .inr (.inr (.inl 1))), (2, .inl ((.ofNat 17, .ofNat 76), some (2, .ofNat 0))), (3, .inl ((.ofNat 2, .ofNat 2), some (3, .ofNat 0))), (4, .inl ((.ofNat 6, .ofNat 6), some (4, .ofNat 0))), (5, .inl ((.ofNat 17, .ofNat 76), some (5, .ofNat 0))), (6, .inl ((.ofNat 2, .ofNat 2), some (6, .ofNat 0)))], [], zyh6, 0, 0), [(5, .negSucc 1)], .ofNat 153), (zyx4r, zyh5), 4, 480),
  ((27, ([(0, .inr (.inr (.inl 3))), (1, .inr (.inr (.inl 1))), (2, .inl ((.ofNat 17, .ofNat 76), some (2, .ofNat 0))), (3, .inl ((.ofNat 2, .ofNat 2), some (3, .ofNat 0))), (4, .inl ((.ofNat 6, .ofNat 6), some (4, .ofNat 0))), (5, .inl ((.ofNat 17, .ofNat 76), some (5, .ofNat 0))), (6, .inl ((.ofNat 2, .ofNat 2), some (6, .ofNat 0)))], [], zyh7, 0, 0), [(5, .negSucc 1)], .ofNat 153), (zyx4r, zyh5), 4, 480),
  ((27, ([(0, .inr (.inr (.inl 3))), (1, .inr (.inr (.inl 1))), (2, .inl ((.ofNat 17, .ofNat 76), some (2, .ofNat 0))), (3, .inl ((.ofNat 2, .ofNat 2), some (3, .ofNat 0))), (4, .inl ((.ofNat 6, .ofNat 6), some (4, .ofNat 0))), (5, .inl ((.ofNat 17, .ofNat 76), some (5, .ofNat 0))), (6, .inl ((.ofNat 2, .ofNat 2), some (6, .ofNat 0)))], [], zyh8, 0, 0), [(5, .negSucc 1)], .ofNat 153), (zyx4r, zyh5), 4, 480),
  ((27, ([(0, .inr (.inr (.inl 3))), (1, .inr (.inr (.inl 1))), (2, .inl ((.ofNat 21, .ofNat 76), some (2, .ofNat 0))), (3, .inl ((.ofNat 0, .ofNat 0), some (3, .ofNat 0))), (4, .inl ((.ofNat 7, .ofNat 7), some (4, .ofNat 0))), (5, .inl ((.ofNat 21, .ofNat 76), some (5, .ofNat 0))), (6, .inl ((.ofNat 0, .ofNat 0), some (6, .ofNat 0)))], [], zyh6, 0, 0), [(5, .negSucc 1)], .ofNat 153), (zyx4r, zyh5), 4, 480),
  ((27, ([(0, .inr (.inr (.inl 3))), (1, .inr (.inr (.inl 1))), (2, .inl ((.ofNat 21, .ofNat 76), some (2, .ofNat 0))), (3, .inl ((.ofNat 0, .ofNat 0), some (3, .ofNat 0))), (4, .inl ((.ofNat 7, .ofNat 7), some (4, .ofNat 0))), (5, .inl ((.ofNat 21, .ofNat 76), some (5, .ofNat 0))), (6, .inl ((.ofNat 0, .ofNat 0), some (6, .ofNat 0)))], [], zyh7, 0, 0), [(5, .negSucc 1)], .ofNat 153), (zyx4r, zyh5), 4, 480),
  ((27, ([(0, .inr (.inr (.inl 3))), (1, .inr (.inr (.inl 1))), (2, .inl ((.ofNat 22, .ofNat 76), some (2, .ofNat 0))), (3, .inl ((.ofNat 1, .ofNat 1), some (3, .ofNat 0))), (4, .inl ((.ofNat 7, .ofNat 7), some (4, .ofNat 0))), (5, .inl ((.ofNat 22, .ofNat 76), some (5, .ofNat 0))), (6, .inl ((.ofNat 1, .ofNat 1), some (6, .ofNat 0)))], [], zyh6, 0, 0), [(5, .negSucc 1)], .ofNat 153), (zyx4r, zyh5), 4, 480),
  ((27, ([(0, .inr (.inr (.inl 3))), (1, .inr (.inr (.inl 1))), (2, .inl ((.ofNat 20, .ofNat 76), some (2, .ofNat 0))), (3, .inl ((.ofNat 2, .ofNat 2), some (3, .ofNat 0))), (4, .inl ((.ofNat 7, .ofNat 7), some (4, .ofNat 0))), (5, .inl ((.ofNat 20, .ofNat 76), some (5, .ofNat 0))), (6, .inl ((.ofNat 2, .ofNat 2), some (6, .ofNat 0)))], [], zyh6, 0, 0), [(5, .negSucc 1)], .ofNat 153), (zyx4r, zyh5), 4, 480),
  ((27, ([(0, .inr (.inr (.inl 3))), (1, .inr (.inr (.inl 1))), (2, .inl ((.ofNat 20, .ofNat 76), some (2, .ofNat 0))), (3, .inl ((.ofNat 2, .ofNat 2), some (3, .ofNat 0))), (4, .inl ((.ofNat 7, .ofNat 7), some (4, .ofNat 0))), (5, .inl ((.ofNat 20, .ofNat 76), some (5, .ofNat 0))), (6, .inl ((.ofNat 2, .ofNat 2), some (6, .ofNat 0)))], [], zyh7, 0, 0), [(5, .negSucc 1)], .ofNat 153), (zyx4r, zyh5), 4, 480),
  ((27, ([(0, .inr (.inr (.inl 3))), (1, .inr (.inr (.inl 1))), (2, .inl ((.ofNat 24, .ofNat 76), some (2, .ofNat 0))), (3, .inl ((.ofNat 0, .ofNat 0), some (3, .ofNat 0))), (4, .inl ((.ofNat 8, .ofNat 8), some (4, .ofNat 0))), (5, .inl ((.ofNat 24, .ofNat 76), some (5, .ofNat 0))), (6, .inl ((.ofNat 0, .ofNat 0), some (6, .ofNat 0)))], [], zyh6, 0, 0), [(5, .negSucc 1)], .ofNat 153), (zyx4r, zyh5), 4, 480),
  ((27, ([(0, .inr (.inr (.inl 3))), (1, .inr (.inr (.inl 1))), (2, .inl ((.ofNat 23, .ofNat 76), some (2, .ofNat 0))), (3, .inl ((.ofNat 2, .ofNat 2), some (3, .ofNat 0))), (4, .inl ((.ofNat 8, .ofNat 8), some (4, .ofNat 0))), (5, .inl ((.ofNat 23, .ofNat 76), some (5, .ofNat 0))), (6, .inl ((.ofNat 2, .ofNat 2), some (6, .ofNat 0)))], [], zyh6, 0, 0), [(5, .negSucc 1)], .ofNat 153), (zyx4r, zyh5), 4, 480)]
noncomputable def zyx4d : zKw := (27, 7, 4, 480, zyx4a, zyh0, [(zyx4r, zyh5)])
noncomputable def zbzyx4c : Bool := zchkX [(3, 6)] zprog2 (zovW []) 100000 k2X0_readRiders [] zyx4p zyx4p
noncomputable def zbzyx4e : Bool := zrunw zprog2 (zovW []) 100000 (zcutW [(3, 6)] none ((zyx4r, zyh5), 4, 480) zyx4p) 4 480 k2X0_readRiders (zkin zyx4r zyh5) 0 (zargs 0 zyx4a, [], (zyh0.1, zyh0.2.1, 0), 0, 0)
/-! X7_forgetKept -/
noncomputable def zyx5a : List zAV := [.inr (.inr (.inl 0))]
def zyx5r : Option zAV := none
noncomputable def zyx5p : List zPw := [((2, ([(0, .inr (.inr (.inl 0))), (1, .inl ((.ofNat 0, .ofNat 2), some (1, .ofNat 0)))], [], zyh16, 0, 0), [(1, .negSucc 1)], .ofNat 5), (zyx5r, zyh16), 2, 300)]
noncomputable def zyx5d : zKw := (122, 2, 2, 300, zyx5a, zyh15, [(zyx5r, zyh16)])
noncomputable def zbzyx5c : Bool := zchkX [] zprog2 (zovW []) 100000 kX7_forgetKept [] zyx5p zyx5p
noncomputable def zbzyx5e : Bool := zrunw zprog2 (zovW []) 100000 (zcutW [] none ((zyx5r, zyh16), 2, 300) zyx5p) 2 300 kX7_forgetKept (zkin zyx5r zyh16) 0 (zargs 0 zyx5a, [], (zyh15.1, zyh15.2.1, 0), 0, 0)
/-! X7_riders -/
noncomputable def zyx6a : List zAV := [.inr (.inr (.inl 0))]
def zyx6r : Option zAV := some (.inl ((.negSucc 76, .ofNat 8), none))
noncomputable def zyx6p : List zPw := []
noncomputable def zyx6d : zKw := (158, 2, 5, 600, zyx6a, zyh0, [(zyx6r, zyh17)])
noncomputable def zbzyx6e : Bool := zrunw zprog2 (zovW [zyx4d, zyx5d]) 100000 (zcutW [] none ((zyx6r, zyh17), 5, 600) zyx6p) 5 600 kX7_riders (zkin zyx6r zyh17) 0 (zargs 0 zyx6a, [], (zyh0.1, zyh0.2.1, 0), 0, 0)
/-! X8_readMan -/
noncomputable def zyx7a : List zAV := [.inr (.inr (.inl 94)), .inl ((.ofNat 0, .ofNat 21), none)]
def zyx7r : Option zAV := none
noncomputable def zyx7p : List zPw := [((44, ([(0, .inr (.inr (.inl 94))), (1, .inl ((.ofNat 0, .ofNat 21), some (1, .ofNat 0))), (2, .inl ((.negSucc 0, .negSucc 0), some (2, .ofNat 0)))], [], zyh20, 0, 0), [], .ofNat 321), (zyx7r, zyh19), 5, 540),
  ((44, ([(0, .inr (.inr (.inl 94))), (1, .inl ((.ofNat 0, .ofNat 21), some (1, .ofNat 0))), (2, .inl ((.negSucc 0, .negSucc 0), some (2, .ofNat 0)))], [], zyh21, 0, 0), [], .ofNat 317), (zyx7r, zyh19), 5, 540),
  ((44, ([(0, .inr (.inr (.inl 94))), (1, .inl ((.ofNat 0, .ofNat 21), some (1, .ofNat 0))), (2, .inl ((.negSucc 0, .negSucc 0), some (2, .ofNat 0))), (3, .inl ((.negSucc 97, .negSucc 0), some (3, .ofNat 0)))], [], zyh22, 0, 0), [], .ofNat 313), (zyx7r, zyh19), 5, 540),
  ((44, ([(0, .inr (.inr (.inl 94))), (1, .inl ((.ofNat 0, .ofNat 21), some (1, .ofNat 0))), (2, .inl ((.negSucc 0, .negSucc 0), some (2, .ofNat 0)))], [], zyh23, 0, 0), [], .ofNat 315), (zyx7r, zyh19), 5, 540),
  ((44, ([(0, .inr (.inr (.inl 94))), (1, .inl ((.ofNat 0, .ofNat 21), some (1, .ofNat 0))), (2, .inl ((.ofNat 0, .ofNat 158), some (2, .ofNat 0))), (3, .inl ((.negSucc 97, .ofNat 158), some (3, .ofNat 0)))], [], zyh24, 0, 0), [], .ofNat 309), (zyx7r, zyh19), 5, 540),
  ((44, ([(0, .inr (.inr (.inl 94))), (1, .inl ((.ofNat 0, .ofNat 21), some (1, .ofNat 0))), (2, .inl ((.ofNat 0, .ofNat 158), some (2, .ofNat 0))), (3, .inl ((.ofNat 0, .ofNat 158), some (3, .ofNat 0)))], [], zyh25, 0, 0), [], .ofNat 311), (zyx7r, zyh19), 5, 540),
  ((44, ([(0, .inr (.inr (.inl 94))), (1, .inl ((.ofNat 0, .ofNat 21), some (1, .ofNat 0))), (2, .inl ((.ofNat 1, .ofNat 158), some (2, .ofNat 0))), (3, .inl ((.negSucc 97, .ofNat 158), some (3, .ofNat 0)))], [], zyh26, 0, 0), [], .ofNat 305), (zyx7r, zyh19), 5, 540),
  ((44, ([(0, .inr (.inr (.inl 94))), (1, .inl ((.ofNat 0, .ofNat 21), some (1, .ofNat 0))), (2, .inl ((.ofNat 1, .ofNat 158), some (2, .ofNat 0))), (3, .inl ((.ofNat 1, .ofNat 158), some (3, .ofNat 0)))], [], zyh27, 0, 0), [], .ofNat 307), (zyx7r, zyh19), 5, 540),
  ((44, ([(0, .inr (.inr (.inl 94))), (1, .inl ((.ofNat 0, .ofNat 21), some (1, .ofNat 0))), (2, .inl ((.ofNat 2, .ofNat 158), some (2, .ofNat 0))), (3, .inl ((.negSucc 97, .ofNat 158), some (3, .ofNat 0)))], [], zyh28, 0, 0), [], .ofNat 301), (zyx7r, zyh19), 5, 540),
  ((44, ([(0, .inr (.inr (.inl 94))), (1, .inl ((.ofNat 0, .ofNat 21), some (1, .ofNat 0))), (2, .inl ((.ofNat 2, .ofNat 158), some (2, .ofNat 0))), (3, .inl ((.ofNat 2, .ofNat 158), some (3, .ofNat 0)))], [], zyh29, 0, 0), [], .ofNat 303), (zyx7r, zyh19), 5, 540),
  ((44, ([(0, .inr (.inr (.inl 94))), (1, .inl ((.ofNat 0, .ofNat 21), some (1, .ofNat 0))), (2, .inl ((.ofNat 3, .ofNat 158), some (2, .ofNat 0))), (3, .inl ((.negSucc 97, .ofNat 158), some (3, .ofNat 0)))], [], zyh30, 0, 0), [], .ofNat 297), (zyx7r, zyh19), 5, 540),
  ((44, ([(0, .inr (.inr (.inl 94))), (1, .inl ((.ofNat 0, .ofNat 21), some (1, .ofNat 0))), (2, .inl ((.ofNat 3, .ofNat 158), some (2, .ofNat 0))), (3, .inl ((.ofNat 3, .ofNat 158), some (3, .ofNat 0)))], [], zyh31, 0, 0), [], .ofNat 299), (zyx7r, zyh19), 5, 540),
  ((44, ([(0, .inr (.inr (.inl 94))), (1, .inl ((.ofNat 0, .ofNat 21), some (1, .ofNat 0))), (2, .inl ((.ofNat 4, .ofNat 158), some (2, .ofNat 0))), (3, .inl ((.negSucc 97, .ofNat 158), some (3, .ofNat 0)))], [], zyh32, 0, 0), [], .ofNat 293), (zyx7r, zyh19), 5, 540),
  ((44, ([(0, .inr (.inr (.inl 94))), (1, .inl ((.ofNat 0, .ofNat 21), some (1, .ofNat 0))), (2, .inl ((.ofNat 4, .ofNat 158), some (2, .ofNat 0))), (3, .inl ((.ofNat 4, .ofNat 158), some (3, .ofNat 0)))], [], zyh33, 0, 0), [], .ofNat 295), (zyx7r, zyh19), 5, 540),
  ((44, ([(0, .inr (.inr (.inl 94))), (1, .inl ((.ofNat 0, .ofNat 21), some (1, .ofNat 0))), (2, .inl ((.ofNat 5, .ofNat 158), some (2, .ofNat 0))), (3, .inl ((.negSucc 97, .ofNat 158), some (3, .ofNat 0)))], [], zyh34, 0, 0), [], .ofNat 289), (zyx7r, zyh19), 5, 540),
  ((44, ([(0, .inr (.inr (.inl 94))), (1, .inl ((.ofNat 0, .ofNat 21), some (1, .ofNat 0))), (2, .inl ((.ofNat 5, .ofNat 158), some (2, .ofNat 0))), (3, .inl ((.ofNat 5, .ofNat 158), some (3, .ofNat 0)))], [], zyh35, 0, 0), [], .ofNat 291), (zyx7r, zyh19), 5, 540),
  ((44, ([(0, .inr (.inr (.inl 94))), (1, .inl ((.ofNat 0, .ofNat 21), some (1, .ofNat 0))), (2, .inl ((.ofNat 6, .ofNat 158), some (2, .ofNat 0))), (3, .inl ((.negSucc 97, .ofNat 158), some (3, .ofNat 0)))], [], zyh36, 0, 0), [], .ofNat 285), (zyx7r, zyh19), 5, 540),
  ((44, ([(0, .inr (.inr (.inl 94))), (1, .inl ((.ofNat 0, .ofNat 21), some (1, .ofNat 0))), (2, .inl ((.ofNat 6, .ofNat 158), some (2, .ofNat 0))), (3, .inl ((.ofNat 6, .ofNat 158), some (3, .ofNat 0)))], [], zyh37, 0, 0), [], .ofNat 287), (zyx7r, zyh19), 5, 540),
  ((44, ([(0, .inr (.inr (.inl 94))), (1, .inl ((.ofNat 0, .ofNat 21), some (1, .ofNat 0))), (2, .inl ((.ofNat 7, .ofNat 158), some (2, .ofNat 0))), (3, .inl ((.negSucc 97, .ofNat 158), some (3, .ofNat 0)))], [], zyh38, 0, 0), [], .ofNat 281), (zyx7r, zyh19), 5, 540),
  ((44, ([(0, .inr (.inr (.inl 94))), (1, .inl ((.ofNat 0, .ofNat 21), some (1, .ofNat 0))), (2, .inl ((.ofNat 7, .ofNat 158), some (2, .ofNat 0))), (3, .inl ((.ofNat 7, .ofNat 158), some (3, .ofNat 0)))], [], zyh39, 0, 0), [], .ofNat 283), (zyx7r, zyh19), 5, 540),
  ((44, ([(0, .inr (.inr (.inl 94))), (1, .inl ((.ofNat 0, .ofNat 21), some (1, .ofNat 0))), (2, .inl ((.ofNat 8, .ofNat 158), some (2, .ofNat 0))), (3, .inl ((.negSucc 97, .ofNat 158), some (3, .ofNat 0)))], [], zyh40, 0, 0), [], .ofNat 277), (zyx7r, zyh19), 5, 540),
  ((44, ([(0, .inr (.inr (.inl 94))), (1, .inl ((.ofNat 0, .ofNat 21), some (1, .ofNat 0))), (2, .inl ((.ofNat 8, .ofNat 158), some (2, .ofNat 0))), (3, .inl ((.ofNat 8, .ofNat 158), some (3, .ofNat 0)))], [], zyh41, 0, 0), [], .ofNat 279), (zyx7r, zyh19), 5, 540),
  ((44, ([(0, .inr (.inr (.inl 94))), (1, .inl ((.ofNat 0, .ofNat 21), some (1, .ofNat 0))), (2, .inl ((.ofNat 9, .ofNat 158), some (2, .ofNat 0))), (3, .inl ((.negSucc 97, .ofNat 158), some (3, .ofNat 0)))], [], zyh42, 0, 0), [], .ofNat 273), (zyx7r, zyh19), 5, 540),
  ((44, ([(0, .inr (.inr (.inl 94))), (1, .inl ((.ofNat 0, .ofNat 21), some (1, .ofNat 0))), (2, .inl ((.ofNat 9, .ofNat 158), some (2, .ofNat 0))), (3, .inl ((.ofNat 9, .ofNat 158), some (3, .ofNat 0)))], [], zyh43, 0, 0), [], .ofNat 275), (zyx7r, zyh19), 5, 540),
  ((44, ([(0, .inr (.inr (.inl 94))), (1, .inl ((.ofNat 0, .ofNat 21), some (1, .ofNat 0))), (2, .inl ((.ofNat 10, .ofNat 158), some (2, .ofNat 0))), (3, .inl ((.negSucc 97, .ofNat 158), some (3, .ofNat 0)))], [], zyh44, 0, 0), [], .ofNat 269), (zyx7r, zyh19), 5, 540),
  ((44, ([(0, .inr (.inr (.inl 94))), (1, .inl ((.ofNat 0, .ofNat 21), some (1, .ofNat 0))), (2, .inl ((.ofNat 10, .ofNat 158), some (2, .ofNat 0))), (3, .inl ((.ofNat 10, .ofNat 158), some (3, .ofNat 0)))], [], zyh45, 0, 0), [], .ofNat 271), (zyx7r, zyh19), 5, 540),
  ((44, ([(0, .inr (.inr (.inl 94))), (1, .inl ((.ofNat 0, .ofNat 21), some (1, .ofNat 0))), (2, .inl ((.ofNat 11, .ofNat 158), some (2, .ofNat 0))), (3, .inl ((.negSucc 97, .ofNat 158), some (3, .ofNat 0)))], [], zyh46, 0, 0), [], .ofNat 265), (zyx7r, zyh19), 5, 540),
  ((44, ([(0, .inr (.inr (.inl 94))), (1, .inl ((.ofNat 0, .ofNat 21), some (1, .ofNat 0))), (2, .inl ((.ofNat 11, .ofNat 158), some (2, .ofNat 0))), (3, .inl ((.ofNat 11, .ofNat 158), some (3, .ofNat 0)))], [], zyh47, 0, 0), [], .ofNat 267), (zyx7r, zyh19), 5, 540),
  ((44, ([(0, .inr (.inr (.inl 94))), (1, .inl ((.ofNat 0, .ofNat 21), some (1, .ofNat 0))), (2, .inl ((.ofNat 12, .ofNat 158), some (2, .ofNat 0))), (3, .inl ((.negSucc 97, .ofNat 158), some (3, .ofNat 0)))], [], zyh48, 0, 0), [], .ofNat 261), (zyx7r, zyh19), 5, 540),
  ((44, ([(0, .inr (.inr (.inl 94))), (1, .inl ((.ofNat 0, .ofNat 21), some (1, .ofNat 0))), (2, .inl ((.ofNat 12, .ofNat 158), some (2, .ofNat 0))), (3, .inl ((.ofNat 12, .ofNat 158), some (3, .ofNat 0)))], [], zyh49, 0, 0), [], .ofNat 263), (zyx7r, zyh19), 5, 540),
  ((44, ([(0, .inr (.inr (.inl 94))), (1, .inl ((.ofNat 0, .ofNat 21), some (1, .ofNat 0))), (2, .inl ((.ofNat 13, .ofNat 158), some (2, .ofNat 0))), (3, .inl ((.negSucc 97, .ofNat 158), some (3, .ofNat 0)))], [], zyh50, 0, 0), [], .ofNat 257), (zyx7r, zyh19), 5, 540),
  ((44, ([(0, .inr (.inr (.inl 94))), (1, .inl ((.ofNat 0, .ofNat 21), some (1, .ofNat 0))), (2, .inl ((.ofNat 13, .ofNat 158), some (2, .ofNat 0))), (3, .inl ((.ofNat 13, .ofNat 158), some (3, .ofNat 0)))], [], zyh51, 0, 0), [], .ofNat 259), (zyx7r, zyh19), 5, 540),
  ((44, ([(0, .inr (.inr (.inl 94))), (1, .inl ((.ofNat 0, .ofNat 21), some (1, .ofNat 0))), (2, .inl ((.ofNat 14, .ofNat 158), some (2, .ofNat 0))), (3, .inl ((.negSucc 97, .ofNat 158), some (3, .ofNat 0)))], [], zyh52, 0, 0), [], .ofNat 253), (zyx7r, zyh19), 5, 540),
  ((44, ([(0, .inr (.inr (.inl 94))), (1, .inl ((.ofNat 0, .ofNat 21), some (1, .ofNat 0))), (2, .inl ((.ofNat 14, .ofNat 158), some (2, .ofNat 0))), (3, .inl ((.ofNat 14, .ofNat 158), some (3, .ofNat 0)))], [], zyh53, 0, 0), [], .ofNat 255), (zyx7r, zyh19), 5, 540),
  ((44, ([(0, .inr (.inr (.inl 94))), (1, .inl ((.ofNat 0, .ofNat 21), some (1, .ofNat 0))), (2, .inl ((.ofNat 15, .ofNat 158), some (2, .ofNat 0))), (3, .inl ((.negSucc 97, .ofNat 158), some (3, .ofNat 0)))], [], zyh54, 0, 0), [], .ofNat 249), (zyx7r, zyh19), 5, 540),
  ((44, ([(0, .inr (.inr (.inl 94))), (1, .inl ((.ofNat 0, .ofNat 21), some (1, .ofNat 0))), (2, .inl ((.ofNat 15, .ofNat 158), some (2, .ofNat 0))), (3, .inl ((.ofNat 15, .ofNat 158), some (3, .ofNat 0)))], [], zyh55, 0, 0), [], .ofNat 251), (zyx7r, zyh19), 5, 540),
  ((44, ([(0, .inr (.inr (.inl 94))), (1, .inl ((.ofNat 0, .ofNat 21), some (1, .ofNat 0))), (2, .inl ((.ofNat 16, .ofNat 158), some (2, .ofNat 0))), (3, .inl ((.negSucc 97, .ofNat 158), some (3, .ofNat 0)))], [], zyh56, 0, 0), [], .ofNat 245), (zyx7r, zyh19), 5, 540),
  ((44, ([(0, .inr (.inr (.inl 94))), (1, .inl ((.ofNat 0, .ofNat 21), some (1, .ofNat 0))), (2, .inl ((.ofNat 16, .ofNat 158), some (2, .ofNat 0))), (3, .inl ((.ofNat 16, .ofNat 158), some (3, .ofNat 0)))], [], zyh57, 0, 0), [], .ofNat 247), (zyx7r, zyh19), 5, 540),
  ((44, ([(0, .inr (.inr (.inl 94))), (1, .inl ((.ofNat 0, .ofNat 21), some (1, .ofNat 0))), (2, .inl ((.ofNat 17, .ofNat 158), some (2, .ofNat 0))), (3, .inl ((.negSucc 97, .ofNat 158), some (3, .ofNat 0)))], [], zyh58, 0, 0), [], .ofNat 241), (zyx7r, zyh19), 5, 540),
  ((44, ([(0, .inr (.inr (.inl 94))), (1, .inl ((.ofNat 0, .ofNat 21), some (1, .ofNat 0))), (2, .inl ((.ofNat 17, .ofNat 158), some (2, .ofNat 0))), (3, .inl ((.ofNat 17, .ofNat 158), some (3, .ofNat 0)))], [], zyh59, 0, 0), [], .ofNat 243), (zyx7r, zyh19), 5, 540),
  ((44, ([(0, .inr (.inr (.inl 94))), (1, .inl ((.ofNat 0, .ofNat 21), some (1, .ofNat 0))), (2, .inl ((.ofNat 18, .ofNat 158), some (2, .ofNat 0))), (3, .inl ((.negSucc 97, .ofNat 158), some (3, .ofNat 0)))], [], zyh60, 0, 0), [], .ofNat 237), (zyx7r, zyh19), 5, 540),
  ((44, ([(0, .inr (.inr (.inl 94))), (1, .inl ((.ofNat 0, .ofNat 21), some (1, .ofNat 0))), (2, .inl ((.ofNat 18, .ofNat 158), some (2, .ofNat 0))), (3, .inl ((.ofNat 18, .ofNat 158), some (3, .ofNat 0)))], [], zyh61, 0, 0), [], .ofNat 239), (zyx7r, zyh19), 5, 540),
  ((44, ([(0, .inr (.inr (.inl 94))), (1, .inl ((.ofNat 0, .ofNat 21), some (1, .ofNat 0))), (2, .inl ((.ofNat 19, .ofNat 158), some (2, .ofNat 0))), (3, .inl ((.negSucc 97, .ofNat 158), some (3, .ofNat 0)))], [], zyh62, 0, 0), [], .ofNat 233), (zyx7r, zyh19), 5, 540),
  ((44, ([(0, .inr (.inr (.inl 94))), (1, .inl ((.ofNat 0, .ofNat 21), some (1, .ofNat 0))), (2, .inl ((.ofNat 19, .ofNat 158), some (2, .ofNat 0))), (3, .inl ((.ofNat 19, .ofNat 158), some (3, .ofNat 0)))], [], zyh63, 0, 0), [], .ofNat 235), (zyx7r, zyh19), 5, 540),
  ((44, ([(0, .inr (.inr (.inl 94))), (1, .inl ((.ofNat 0, .ofNat 21), some (1, .ofNat 0))), (2, .inl ((.ofNat 20, .ofNat 158), some (2, .ofNat 0))), (3, .inl ((.negSucc 97, .ofNat 158), some (3, .ofNat 0)))], [], zyh64, 0, 0), [], .ofNat 229), (zyx7r, zyh19), 5, 540),
  ((44, ([(0, .inr (.inr (.inl 94))), (1, .inl ((.ofNat 0, .ofNat 21), some (1, .ofNat 0))), (2, .inl ((.ofNat 20, .ofNat 158), some (2, .ofNat 0))), (3, .inl ((.ofNat 20, .ofNat 158), some (3, .ofNat 0)))], [], zyh65, 0, 0), [], .ofNat 231), (zyx7r, zyh19), 5, 540),
  ((44, ([(0, .inr (.inr (.inl 94))), (1, .inl ((.ofNat 0, .ofNat 21), some (1, .ofNat 0))), (2, .inl ((.ofNat 21, .ofNat 158), some (2, .ofNat 0))), (3, .inl ((.negSucc 97, .ofNat 158), some (3, .ofNat 0)))], [], zyh66, 0, 0), [], .ofNat 225), (zyx7r, zyh19), 5, 540),
  ((44, ([(0, .inr (.inr (.inl 94))), (1, .inl ((.ofNat 0, .ofNat 21), some (1, .ofNat 0))), (2, .inl ((.ofNat 21, .ofNat 158), some (2, .ofNat 0))), (3, .inl ((.ofNat 21, .ofNat 158), some (3, .ofNat 0)))], [], zyh67, 0, 0), [], .ofNat 227), (zyx7r, zyh19), 5, 540),
  ((44, ([(0, .inr (.inr (.inl 94))), (1, .inl ((.ofNat 0, .ofNat 21), some (1, .ofNat 0))), (2, .inl ((.ofNat 22, .ofNat 158), some (2, .ofNat 0))), (3, .inl ((.negSucc 97, .ofNat 158), some (3, .ofNat 0)))], [], zyh68, 0, 0), [], .ofNat 221), (zyx7r, zyh19), 5, 540),
  ((44, ([(0, .inr (.inr (.inl 94))), (1, .inl ((.ofNat 0, .ofNat 21), some (1, .ofNat 0))), (2, .inl ((.ofNat 22, .ofNat 158), some (2, .ofNat 0))), (3, .inl ((.ofNat 22, .ofNat 158), some (3, .ofNat 0)))], [], zyh69, 0, 0), [], .ofNat 223), (zyx7r, zyh19), 5, 540),
  ((44, ([(0, .inr (.inr (.inl 94))), (1, .inl ((.ofNat 0, .ofNat 21), some (1, .ofNat 0))), (2, .inl ((.ofNat 23, .ofNat 158), some (2, .ofNat 0))), (3, .inl ((.negSucc 97, .ofNat 158), some (3, .ofNat 0)))], [], zyh70, 0, 0), [], .ofNat 217), (zyx7r, zyh19), 5, 540),
  ((44, ([(0, .inr (.inr (.inl 94))), (1, .inl ((.ofNat 0, .ofNat 21), some (1, .ofNat 0))), (2, .inl ((.ofNat 23, .ofNat 158), some (2, .ofNat 0))), (3, .inl ((.ofNat 23, .ofNat 158), some (3, .ofNat 0)))], [], zyh71, 0, 0), [], .ofNat 219), (zyx7r, zyh19), 5, 540),
  ((44, ([(0, .inr (.inr (.inl 94))), (1, .inl ((.ofNat 0, .ofNat 21), some (1, .ofNat 0))), (2, .inl ((.ofNat 24, .ofNat 158), some (2, .ofNat 0))), (3, .inl ((.negSucc 97, .ofNat 158), some (3, .ofNat 0)))], [], zyh72, 0, 0), [], .ofNat 213), (zyx7r, zyh19), 5, 540),
  ((44, ([(0, .inr (.inr (.inl 94))), (1, .inl ((.ofNat 0, .ofNat 21), some (1, .ofNat 0))), (2, .inl ((.ofNat 24, .ofNat 158), some (2, .ofNat 0))), (3, .inl ((.ofNat 24, .ofNat 158), some (3, .ofNat 0)))], [], zyh73, 0, 0), [], .ofNat 215), (zyx7r, zyh19), 5, 540),
  ((44, ([(0, .inr (.inr (.inl 94))), (1, .inl ((.ofNat 0, .ofNat 21), some (1, .ofNat 0))), (2, .inl ((.ofNat 25, .ofNat 158), some (2, .ofNat 0))), (3, .inl ((.negSucc 97, .ofNat 158), some (3, .ofNat 0)))], [], zyh74, 0, 0), [], .ofNat 209), (zyx7r, zyh19), 5, 540),
  ((44, ([(0, .inr (.inr (.inl 94))), (1, .inl ((.ofNat 0, .ofNat 21), some (1, .ofNat 0))), (2, .inl ((.ofNat 25, .ofNat 158), some (2, .ofNat 0))), (3, .inl ((.ofNat 25, .ofNat 158), some (3, .ofNat 0)))], [], zyh75, 0, 0), [], .ofNat 211), (zyx7r, zyh19), 5, 540),
  ((44, ([(0, .inr (.inr (.inl 94))), (1, .inl ((.ofNat 0, .ofNat 21), some (1, .ofNat 0))), (2, .inl ((.ofNat 26, .ofNat 158), some (2, .ofNat 0))), (3, .inl ((.negSucc 97, .ofNat 158), some (3, .ofNat 0)))], [], zyh76, 0, 0), [], .ofNat 205), (zyx7r, zyh19), 5, 540),
  ((44, ([(0, .inr (.inr (.inl 94))), (1, .inl ((.ofNat 0, .ofNat 21), some (1, .ofNat 0))), (2, .inl ((.ofNat 26, .ofNat 158), some (2, .ofNat 0))), (3, .inl ((.ofNat 26, .ofNat 158), some (3, .ofNat 0)))], [], zyh77, 0, 0), [], .ofNat 207), (zyx7r, zyh19), 5, 540),
  ((44, ([(0, .inr (.inr (.inl 94))), (1, .inl ((.ofNat 0, .ofNat 21), some (1, .ofNat 0))), (2, .inl ((.ofNat 27, .ofNat 158), some (2, .ofNat 0))), (3, .inl ((.negSucc 97, .ofNat 158), some (3, .ofNat 0)))], [], zyh78, 0, 0), [], .ofNat 201), (zyx7r, zyh19), 5, 540),
  ((44, ([(0, .inr (.inr (.inl 94))), (1, .inl ((.ofNat 0, .ofNat 21), some (1, .ofNat 0))), (2, .inl ((.ofNat 27, .ofNat 158), some (2, .ofNat 0))), (3, .inl ((.ofNat 27, .ofNat 158), some (3, .ofNat 0)))], [], zyh79, 0, 0), [], .ofNat 203), (zyx7r, zyh19), 5, 540),
  ((44, ([(0, .inr (.inr (.inl 94))), (1, .inl ((.ofNat 0, .ofNat 21), some (1, .ofNat 0))), (2, .inl ((.ofNat 28, .ofNat 158), some (2, .ofNat 0))), (3, .inl ((.negSucc 97, .ofNat 158), some (3, .ofNat 0)))], [], zyh80, 0, 0), [], .ofNat 197), (zyx7r, zyh19), 5, 540),
  ((44, ([(0, .inr (.inr (.inl 94))), (1, .inl ((.ofNat 0, .ofNat 21), some (1, .ofNat 0))), (2, .inl ((.ofNat 28, .ofNat 158), some (2, .ofNat 0))), (3, .inl ((.ofNat 28, .ofNat 158), some (3, .ofNat 0)))], [], zyh81, 0, 0), [], .ofNat 199), (zyx7r, zyh19), 5, 540),
  ((44, ([(0, .inr (.inr (.inl 94))), (1, .inl ((.ofNat 0, .ofNat 21), some (1, .ofNat 0))), (2, .inl ((.ofNat 29, .ofNat 158), some (2, .ofNat 0))), (3, .inl ((.negSucc 97, .ofNat 158), some (3, .ofNat 0)))], [], zyh82, 0, 0), [], .ofNat 193), (zyx7r, zyh19), 5, 540),
  ((44, ([(0, .inr (.inr (.inl 94))), (1, .inl ((.ofNat 0, .ofNat 21), some (1, .ofNat 0))), (2, .inl ((.ofNat 29, .ofNat 158), some (2, .ofNat 0))), (3, .inl ((.ofNat 29, .ofNat 158), some (3, .ofNat 0)))], [], zyh83, 0, 0), [], .ofNat 195), (zyx7r, zyh19), 5, 540),
  ((44, ([(0, .inr (.inr (.inl 94))), (1, .inl ((.ofNat 0, .ofNat 21), some (1, .ofNat 0))), (2, .inl ((.ofNat 30, .ofNat 158), some (2, .ofNat 0))), (3, .inl ((.negSucc 97, .ofNat 158), some (3, .ofNat 0)))], [], zyh84, 0, 0), [], .ofNat 189), (zyx7r, zyh19), 5, 540),
  ((44, ([(0, .inr (.inr (.inl 94))), (1, .inl ((.ofNat 0, .ofNat 21), some (1, .ofNat 0))), (2, .inl ((.ofNat 30, .ofNat 158), some (2, .ofNat 0))), (3, .inl ((.ofNat 30, .ofNat 158), some (3, .ofNat 0)))], [], zyh85, 0, 0), [], .ofNat 191), (zyx7r, zyh19), 5, 540),
  ((44, ([(0, .inr (.inr (.inl 94))), (1, .inl ((.ofNat 0, .ofNat 21), some (1, .ofNat 0))), (2, .inl ((.ofNat 31, .ofNat 158), some (2, .ofNat 0))), (3, .inl ((.negSucc 97, .ofNat 158), some (3, .ofNat 0)))], [], zyh86, 0, 0), [], .ofNat 185), (zyx7r, zyh19), 5, 540),
  ((44, ([(0, .inr (.inr (.inl 94))), (1, .inl ((.ofNat 0, .ofNat 21), some (1, .ofNat 0))), (2, .inl ((.ofNat 31, .ofNat 158), some (2, .ofNat 0))), (3, .inl ((.ofNat 31, .ofNat 158), some (3, .ofNat 0)))], [], zyh87, 0, 0), [], .ofNat 187), (zyx7r, zyh19), 5, 540),
  ((44, ([(0, .inr (.inr (.inl 94))), (1, .inl ((.ofNat 0, .ofNat 21), some (1, .ofNat 0))), (2, .inl ((.ofNat 32, .ofNat 158), some (2, .ofNat 0))), (3, .inl ((.negSucc 97, .ofNat 158), some (3, .ofNat 0)))], [], zyh88, 0, 0), [], .ofNat 181), (zyx7r, zyh19), 5, 540),
  ((44, ([(0, .inr (.inr (.inl 94))), (1, .inl ((.ofNat 0, .ofNat 21), some (1, .ofNat 0))), (2, .inl ((.ofNat 32, .ofNat 158), some (2, .ofNat 0))), (3, .inl ((.ofNat 32, .ofNat 158), some (3, .ofNat 0)))], [], zyh89, 0, 0), [], .ofNat 183), (zyx7r, zyh19), 5, 540),
  ((44, ([(0, .inr (.inr (.inl 94))), (1, .inl ((.ofNat 0, .ofNat 21), some (1, .ofNat 0))), (2, .inl ((.ofNat 33, .ofNat 158), some (2, .ofNat 0))), (3, .inl ((.negSucc 97, .ofNat 158), some (3, .ofNat 0)))], [], zyh90, 0, 0), [], .ofNat 177), (zyx7r, zyh19), 5, 540),
  ((44, ([(0, .inr (.inr (.inl 94))), (1, .inl ((.ofNat 0, .ofNat 21), some (1, .ofNat 0))), (2, .inl ((.ofNat 33, .ofNat 158), some (2, .ofNat 0))), (3, .inl ((.ofNat 33, .ofNat 158), some (3, .ofNat 0)))], [], zyh91, 0, 0), [], .ofNat 179), (zyx7r, zyh19), 5, 540),
  ((44, ([(0, .inr (.inr (.inl 94))), (1, .inl ((.ofNat 0, .ofNat 21), some (1, .ofNat 0))), (2, .inl ((.ofNat 34, .ofNat 158), some (2, .ofNat 0))), (3, .inl ((.negSucc 97, .ofNat 158), some (3, .ofNat 0)))], [], zyh92, 0, 0), [], .ofNat 173), (zyx7r, zyh19), 5, 540),
  ((44, ([(0, .inr (.inr (.inl 94))), (1, .inl ((.ofNat 0, .ofNat 21), some (1, .ofNat 0))), (2, .inl ((.ofNat 34, .ofNat 158), some (2, .ofNat 0))), (3, .inl ((.ofNat 34, .ofNat 158), some (3, .ofNat 0)))], [], zyh93, 0, 0), [], .ofNat 175), (zyx7r, zyh19), 5, 540),
  ((44, ([(0, .inr (.inr (.inl 94))), (1, .inl ((.ofNat 0, .ofNat 21), some (1, .ofNat 0))), (2, .inl ((.ofNat 35, .ofNat 158), some (2, .ofNat 0))), (3, .inl ((.negSucc 97, .ofNat 158), some (3, .ofNat 0)))], [], zyh94, 0, 0), [], .ofNat 169), (zyx7r, zyh19), 5, 540),
  ((44, ([(0, .inr (.inr (.inl 94))), (1, .inl ((.ofNat 0, .ofNat 21), some (1, .ofNat 0))), (2, .inl ((.ofNat 35, .ofNat 158), some (2, .ofNat 0))), (3, .inl ((.ofNat 35, .ofNat 158), some (3, .ofNat 0)))], [], zyh95, 0, 0), [], .ofNat 171), (zyx7r, zyh19), 5, 540),
  ((44, ([(0, .inr (.inr (.inl 94))), (1, .inl ((.ofNat 0, .ofNat 21), some (1, .ofNat 0))), (2, .inl ((.ofNat 36, .ofNat 158), some (2, .ofNat 0))), (3, .inl ((.negSucc 97, .ofNat 158), some (3, .ofNat 0)))], [], zyh96, 0, 0), [], .ofNat 165), (zyx7r, zyh19), 5, 540),
  ((44, ([(0, .inr (.inr (.inl 94))), (1, .inl ((.ofNat 0, .ofNat 21), some (1, .ofNat 0))), (2, .inl ((.ofNat 36, .ofNat 158), some (2, .ofNat 0))), (3, .inl ((.ofNat 36, .ofNat 158), some (3, .ofNat 0)))], [], zyh97, 0, 0), [], .ofNat 167), (zyx7r, zyh19), 5, 540),
  ((44, ([(0, .inr (.inr (.inl 94))), (1, .inl ((.ofNat 0, .ofNat 21), some (1, .ofNat 0))), (2, .inl ((.ofNat 37, .ofNat 158), some (2, .ofNat 0))), (3, .inl ((.negSucc 97, .ofNat 158), some (3, .ofNat 0)))], [], zyh98, 0, 0), [], .ofNat 161), (zyx7r, zyh19), 5, 540),
  ((44, ([(0, .inr (.inr (.inl 94))), (1, .inl ((.ofNat 0, .ofNat 21), some (1, .ofNat 0))), (2, .inl ((.ofNat 37, .ofNat 158), some (2, .ofNat 0))), (3, .inl ((.ofNat 37, .ofNat 158), some (3, .ofNat 0)))], [], zyh99, 0, 0), [], .ofNat 163), (zyx7r, zyh19), 5, 540),
  ((44, ([(0, .inr (.inr (.inl 94))), (1, .inl ((.ofNat 0, .ofNat 21), some (1, .ofNat 0))), (2, .inl ((.ofNat 38, .ofNat 158), some (2, .ofNat 0))), (3, .inl ((.negSucc 97, .ofNat 158), some (3, .ofNat 0)))], [], zyh100, 0, 0), [], .ofNat 157), (zyx7r, zyh19), 5, 540),
  ((44, ([(0, .inr (.inr (.inl 94))), (1, .inl ((.ofNat 0, .ofNat 21), some (1, .ofNat 0))), (2, .inl ((.ofNat 38, .ofNat 158), some (2, .ofNat 0))), (3, .inl ((.ofNat 38, .ofNat 158), some (3, .ofNat 0)))], [], zyh101, 0, 0), [], .ofNat 159), (zyx7r, zyh19), 5, 540),
  ((44, ([(0, .inr (.inr (.inl 94))), (1, .inl ((.ofNat 0, .ofNat 21), some (1, .ofNat 0))), (2, .inl ((.ofNat 39, .ofNat 158), some (2, .ofNat 0))), (3, .inl ((.negSucc 97, .ofNat 158), some (3, .ofNat 0)))], [], zyh102, 0, 0), [], .ofNat 153), (zyx7r, zyh19), 5, 540),
  ((44, ([(0, .inr (.inr (.inl 94))), (1, .inl ((.ofNat 0, .ofNat 21), some (1, .ofNat 0))), (2, .inl ((.ofNat 39, .ofNat 158), some (2, .ofNat 0))), (3, .inl ((.ofNat 39, .ofNat 158), some (3, .ofNat 0)))], [], zyh103, 0, 0), [], .ofNat 155), (zyx7r, zyh19), 5, 540),
  ((44, ([(0, .inr (.inr (.inl 94))), (1, .inl ((.ofNat 0, .ofNat 21), some (1, .ofNat 0))), (2, .inl ((.ofNat 40, .ofNat 158), some (2, .ofNat 0))), (3, .inl ((.negSucc 97, .ofNat 158), some (3, .ofNat 0)))], [], zyh104, 0, 0), [], .ofNat 149), (zyx7r, zyh19), 5, 540),
  ((44, ([(0, .inr (.inr (.inl 94))), (1, .inl ((.ofNat 0, .ofNat 21), some (1, .ofNat 0))), (2, .inl ((.ofNat 40, .ofNat 158), some (2, .ofNat 0))), (3, .inl ((.ofNat 40, .ofNat 158), some (3, .ofNat 0)))], [], zyh105, 0, 0), [], .ofNat 151), (zyx7r, zyh19), 5, 540),
  ((44, ([(0, .inr (.inr (.inl 94))), (1, .inl ((.ofNat 0, .ofNat 21), some (1, .ofNat 0))), (2, .inl ((.ofNat 41, .ofNat 158), some (2, .ofNat 0))), (3, .inl ((.negSucc 97, .ofNat 158), some (3, .ofNat 0)))], [], zyh106, 0, 0), [], .ofNat 145), (zyx7r, zyh19), 5, 540),
  ((44, ([(0, .inr (.inr (.inl 94))), (1, .inl ((.ofNat 0, .ofNat 21), some (1, .ofNat 0))), (2, .inl ((.ofNat 41, .ofNat 158), some (2, .ofNat 0))), (3, .inl ((.ofNat 41, .ofNat 158), some (3, .ofNat 0)))], [], zyh107, 0, 0), [], .ofNat 147), (zyx7r, zyh19), 5, 540),
  ((44, ([(0, .inr (.inr (.inl 94))), (1, .inl ((.ofNat 0, .ofNat 21), some (1, .ofNat 0))), (2, .inl ((.ofNat 42, .ofNat 158), some (2, .ofNat 0))), (3, .inl ((.negSucc 97, .ofNat 158), some (3, .ofNat 0)))], [], zyh108, 0, 0), [], .ofNat 141), (zyx7r, zyh19), 5, 540),
  ((44, ([(0, .inr (.inr (.inl 94))), (1, .inl ((.ofNat 0, .ofNat 21), some (1, .ofNat 0))), (2, .inl ((.ofNat 42, .ofNat 158), some (2, .ofNat 0))), (3, .inl ((.ofNat 42, .ofNat 158), some (3, .ofNat 0)))], [], zyh109, 0, 0), [], .ofNat 143), (zyx7r, zyh19), 5, 540),
  ((44, ([(0, .inr (.inr (.inl 94))), (1, .inl ((.ofNat 0, .ofNat 21), some (1, .ofNat 0))), (2, .inl ((.ofNat 43, .ofNat 158), some (2, .ofNat 0))), (3, .inl ((.negSucc 97, .ofNat 158), some (3, .ofNat 0)))], [], zyh110, 0, 0), [], .ofNat 137), (zyx7r, zyh19), 5, 540),
  ((44, ([(0, .inr (.inr (.inl 94))), (1, .inl ((.ofNat 0, .ofNat 21), some (1, .ofNat 0))), (2, .inl ((.ofNat 43, .ofNat 158), some (2, .ofNat 0))), (3, .inl ((.ofNat 43, .ofNat 158), some (3, .ofNat 0)))], [], zyh111, 0, 0), [], .ofNat 139), (zyx7r, zyh19), 5, 540),
  ((44, ([(0, .inr (.inr (.inl 94))), (1, .inl ((.ofNat 0, .ofNat 21), some (1, .ofNat 0))), (2, .inl ((.ofNat 44, .ofNat 158), some (2, .ofNat 0))), (3, .inl ((.negSucc 97, .ofNat 158), some (3, .ofNat 0)))], [], zyh112, 0, 0), [], .ofNat 133), (zyx7r, zyh19), 5, 540),
  ((44, ([(0, .inr (.inr (.inl 94))), (1, .inl ((.ofNat 0, .ofNat 21), some (1, .ofNat 0))), (2, .inl ((.ofNat 44, .ofNat 158), some (2, .ofNat 0))), (3, .inl ((.ofNat 44, .ofNat 158), some (3, .ofNat 0)))], [], zyh113, 0, 0), [], .ofNat 135), (zyx7r, zyh19), 5, 540),
  ((44, ([(0, .inr (.inr (.inl 94))), (1, .inl ((.ofNat 0, .ofNat 21), some (1, .ofNat 0))), (2, .inl ((.ofNat 45, .ofNat 158), some (2, .ofNat 0))), (3, .inl ((.negSucc 97, .ofNat 158), some (3, .ofNat 0)))], [], zyh114, 0, 0), [], .ofNat 129), (zyx7r, zyh19), 5, 540),
  ((44, ([(0, .inr (.inr (.inl 94))), (1, .inl ((.ofNat 0, .ofNat 21), some (1, .ofNat 0))), (2, .inl ((.ofNat 45, .ofNat 158), some (2, .ofNat 0))), (3, .inl ((.ofNat 45, .ofNat 158), some (3, .ofNat 0)))], [], zyh115, 0, 0), [], .ofNat 131), (zyx7r, zyh19), 5, 540),
  ((44, ([(0, .inr (.inr (.inl 94))), (1, .inl ((.ofNat 0, .ofNat 21), some (1, .ofNat 0))), (2, .inl ((.ofNat 46, .ofNat 158), some (2, .ofNat 0))), (3, .inl ((.negSucc 97, .ofNat 158), some (3, .ofNat 0)))], [], zyh116, 0, 0), [], .ofNat 125), (zyx7r, zyh19), 5, 540),
  ((44, ([(0, .inr (.inr (.inl 94))), (1, .inl ((.ofNat 0, .ofNat 21), some (1, .ofNat 0))), (2, .inl ((.ofNat 46, .ofNat 158), some (2, .ofNat 0))), (3, .inl ((.ofNat 46, .ofNat 158), some (3, .ofNat 0)))], [], zyh117, 0, 0), [], .ofNat 127), (zyx7r, zyh19), 5, 540),
  ((44, ([(0, .inr (.inr (.inl 94))), (1, .inl ((.ofNat 0, .ofNat 21), some (1, .ofNat 0))), (2, .inl ((.ofNat 47, .ofNat 158), some (2, .ofNat 0))), (3, .inl ((.negSucc 97, .ofNat 158), some (3, .ofNat 0)))], [], zyh118, 0, 0), [], .ofNat 121), (zyx7r, zyh19), 5, 540),
  ((44, ([(0, .inr (.inr (.inl 94))), (1, .inl ((.ofNat 0, .ofNat 21), some (1, .ofNat 0))), (2, .inl ((.ofNat 47, .ofNat 158), some (2, .ofNat 0))), (3, .inl ((.ofNat 47, .ofNat 158), some (3, .ofNat 0)))], [], zyh119, 0, 0), [], .ofNat 123), (zyx7r, zyh19), 5, 540),
  ((44, ([(0, .inr (.inr (.inl 94))), (1, .inl ((.ofNat 0, .ofNat 21), some (1, .ofNat 0))), (2, .inl ((.ofNat 48, .ofNat 158), some (2, .ofNat 0))), (3, .inl ((.negSucc 97, .ofNat 158), some (3, .ofNat 0)))], [], zyh120, 0, 0), [], .ofNat 117), (zyx7r, zyh19), 5, 540),
  ((44, ([(0, .inr (.inr (.inl 94))), (1, .inl ((.ofNat 0, .ofNat 21), some (1, .ofNat 0))), (2, .inl ((.ofNat 48, .ofNat 158), some (2, .ofNat 0))), (3, .inl ((.ofNat 48, .ofNat 158), some (3, .ofNat 0)))], [], zyh121, 0, 0), [], .ofNat 119), (zyx7r, zyh19), 5, 540),
  ((44, ([(0, .inr (.inr (.inl 94))), (1, .inl ((.ofNat 0, .ofNat 21), some (1, .ofNat 0))), (2, .inl ((.ofNat 49, .ofNat 158), some (2, .ofNat 0))), (3, .inl ((.negSucc 97, .ofNat 158), some (3, .ofNat 0)))], [], zyh122, 0, 0), [], .ofNat 113), (zyx7r, zyh19), 5, 540),
  ((44, ([(0, .inr (.inr (.inl 94))), (1, .inl ((.ofNat 0, .ofNat 21), some (1, .ofNat 0))), (2, .inl ((.ofNat 49, .ofNat 158), some (2, .ofNat 0))), (3, .inl ((.ofNat 49, .ofNat 158), some (3, .ofNat 0)))], [], zyh123, 0, 0), [], .ofNat 115), (zyx7r, zyh19), 5, 540),
  ((44, ([(0, .inr (.inr (.inl 94))), (1, .inl ((.ofNat 0, .ofNat 21), some (1, .ofNat 0))), (2, .inl ((.ofNat 50, .ofNat 158), some (2, .ofNat 0))), (3, .inl ((.negSucc 97, .ofNat 158), some (3, .ofNat 0)))], [], zyh124, 0, 0), [], .ofNat 109), (zyx7r, zyh19), 5, 540),
  ((44, ([(0, .inr (.inr (.inl 94))), (1, .inl ((.ofNat 0, .ofNat 21), some (1, .ofNat 0))), (2, .inl ((.ofNat 50, .ofNat 158), some (2, .ofNat 0))), (3, .inl ((.ofNat 50, .ofNat 158), some (3, .ofNat 0)))], [], zyh125, 0, 0), [], .ofNat 111), (zyx7r, zyh19), 5, 540),
  ((44, ([(0, .inr (.inr (.inl 94))), (1, .inl ((.ofNat 0, .ofNat 21), some (1, .ofNat 0))), (2, .inl ((.ofNat 51, .ofNat 158), some (2, .ofNat 0))), (3, .inl ((.negSucc 97, .ofNat 158), some (3, .ofNat 0)))], [], zyh126, 0, 0), [], .ofNat 105), (zyx7r, zyh19), 5, 540),
  ((44, ([(0, .inr (.inr (.inl 94))), (1, .inl ((.ofNat 0, .ofNat 21), some (1, .ofNat 0))), (2, .inl ((.ofNat 51, .ofNat 158), some (2, .ofNat 0))), (3, .inl ((.ofNat 51, .ofNat 158), some (3, .ofNat 0)))], [], zyh127, 0, 0), [], .ofNat 107), (zyx7r, zyh19), 5, 540),
  ((44, ([(0, .inr (.inr (.inl 94))), (1, .inl ((.ofNat 0, .ofNat 21), some (1, .ofNat 0))), (2, .inl ((.ofNat 52, .ofNat 158), some (2, .ofNat 0))), (3, .inl ((.negSucc 97, .ofNat 158), some (3, .ofNat 0)))], [], zyh128, 0, 0), [], .ofNat 101), (zyx7r, zyh19), 5, 540),
  ((44, ([(0, .inr (.inr (.inl 94))), (1, .inl ((.ofNat 0, .ofNat 21), some (1, .ofNat 0))), (2, .inl ((.ofNat 52, .ofNat 158), some (2, .ofNat 0))), (3, .inl ((.ofNat 52, .ofNat 158), some (3, .ofNat 0)))], [], zyh129, 0, 0), [], .ofNat 103), (zyx7r, zyh19), 5, 540),
  ((44, ([(0, .inr (.inr (.inl 94))), (1, .inl ((.ofNat 0, .ofNat 21), some (1, .ofNat 0))), (2, .inl ((.ofNat 53, .ofNat 158), some (2, .ofNat 0))), (3, .inl ((.negSucc 97, .ofNat 158), some (3, .ofNat 0)))], [], zyh130, 0, 0), [], .ofNat 97), (zyx7r, zyh19), 5, 540),
  ((44, ([(0, .inr (.inr (.inl 94))), (1, .inl ((.ofNat 0, .ofNat 21), some (1, .ofNat 0))), (2, .inl ((.ofNat 53, .ofNat 158), some (2, .ofNat 0))), (3, .inl ((.ofNat 53, .ofNat 158), some (3, .ofNat 0)))], [], zyh131, 0, 0), [], .ofNat 99), (zyx7r, zyh19), 5, 540),
  ((44, ([(0, .inr (.inr (.inl 94))), (1, .inl ((.ofNat 0, .ofNat 21), some (1, .ofNat 0))), (2, .inl ((.ofNat 54, .ofNat 158), some (2, .ofNat 0))), (3, .inl ((.negSucc 97, .ofNat 158), some (3, .ofNat 0)))], [], zyh132, 0, 0), [], .ofNat 93), (zyx7r, zyh19), 5, 540),
  ((44, ([(0, .inr (.inr (.inl 94))), (1, .inl ((.ofNat 0, .ofNat 21), some (1, .ofNat 0))), (2, .inl ((.ofNat 54, .ofNat 158), some (2, .ofNat 0))), (3, .inl ((.ofNat 54, .ofNat 158), some (3, .ofNat 0)))], [], zyh133, 0, 0), [], .ofNat 95), (zyx7r, zyh19), 5, 540),
  ((44, ([(0, .inr (.inr (.inl 94))), (1, .inl ((.ofNat 0, .ofNat 21), some (1, .ofNat 0))), (2, .inl ((.ofNat 55, .ofNat 158), some (2, .ofNat 0))), (3, .inl ((.negSucc 97, .ofNat 158), some (3, .ofNat 0)))], [], zyh134, 0, 0), [], .ofNat 89), (zyx7r, zyh19), 5, 540),
  ((44, ([(0, .inr (.inr (.inl 94))), (1, .inl ((.ofNat 0, .ofNat 21), some (1, .ofNat 0))), (2, .inl ((.ofNat 55, .ofNat 158), some (2, .ofNat 0))), (3, .inl ((.ofNat 55, .ofNat 158), some (3, .ofNat 0)))], [], zyh135, 0, 0), [], .ofNat 91), (zyx7r, zyh19), 5, 540),
  ((44, ([(0, .inr (.inr (.inl 94))), (1, .inl ((.ofNat 0, .ofNat 21), some (1, .ofNat 0))), (2, .inl ((.ofNat 56, .ofNat 158), some (2, .ofNat 0))), (3, .inl ((.negSucc 97, .ofNat 158), some (3, .ofNat 0)))], [], zyh136, 0, 0), [], .ofNat 85), (zyx7r, zyh19), 5, 540),
  ((44, ([(0, .inr (.inr (.inl 94))), (1, .inl ((.ofNat 0, .ofNat 21), some (1, .ofNat 0))), (2, .inl ((.ofNat 56, .ofNat 158), some (2, .ofNat 0))), (3, .inl ((.ofNat 56, .ofNat 158), some (3, .ofNat 0)))], [], zyh137, 0, 0), [], .ofNat 87), (zyx7r, zyh19), 5, 540),
  ((44, ([(0, .inr (.inr (.inl 94))), (1, .inl ((.ofNat 0, .ofNat 21), some (1, .ofNat 0))), (2, .inl ((.ofNat 57, .ofNat 158), some (2, .ofNat 0))), (3, .inl ((.negSucc 97, .ofNat 158), some (3, .ofNat 0)))], [], zyh138, 0, 0), [], .ofNat 81), (zyx7r, zyh19), 5, 540),
  ((44, ([(0, .inr (.inr (.inl 94))), (1, .inl ((.ofNat 0, .ofNat 21), some (1, .ofNat 0))), (2, .inl ((.ofNat 57, .ofNat 158), some (2, .ofNat 0))), (3, .inl ((.ofNat 57, .ofNat 158), some (3, .ofNat 0)))], [], zyh139, 0, 0), [], .ofNat 83), (zyx7r, zyh19), 5, 540),
  ((44, ([(0, .inr (.inr (.inl 94))), (1, .inl ((.ofNat 0, .ofNat 21), some (1, .ofNat 0))), (2, .inl ((.ofNat 58, .ofNat 158), some (2, .ofNat 0))), (3, .inl ((.negSucc 97, .ofNat 158), some (3, .ofNat 0)))], [], zyh140, 0, 0), [], .ofNat 77), (zyx7r, zyh19), 5, 540),
  ((44, ([(0, .inr (.inr (.inl 94))), (1, .inl ((.ofNat 0, .ofNat 21), some (1, .ofNat 0))), (2, .inl ((.ofNat 58, .ofNat 158), some (2, .ofNat 0))), (3, .inl ((.ofNat 58, .ofNat 158), some (3, .ofNat 0)))], [], zyh141, 0, 0), [], .ofNat 79), (zyx7r, zyh19), 5, 540),
  ((44, ([(0, .inr (.inr (.inl 94))), (1, .inl ((.ofNat 0, .ofNat 21), some (1, .ofNat 0))), (2, .inl ((.ofNat 59, .ofNat 158), some (2, .ofNat 0))), (3, .inl ((.negSucc 97, .ofNat 158), some (3, .ofNat 0)))], [], zyh142, 0, 0), [], .ofNat 73), (zyx7r, zyh19), 5, 540),
  ((44, ([(0, .inr (.inr (.inl 94))), (1, .inl ((.ofNat 0, .ofNat 21), some (1, .ofNat 0))), (2, .inl ((.ofNat 59, .ofNat 158), some (2, .ofNat 0))), (3, .inl ((.ofNat 59, .ofNat 158), some (3, .ofNat 0)))], [], zyh143, 0, 0), [], .ofNat 75), (zyx7r, zyh19), 5, 540),
  ((44, ([(0, .inr (.inr (.inl 94))), (1, .inl ((.ofNat 0, .ofNat 21), some (1, .ofNat 0))), (2, .inl ((.ofNat 60, .ofNat 158), some (2, .ofNat 0))), (3, .inl ((.negSucc 97, .ofNat 158), some (3, .ofNat 0)))], [], zyh144, 0, 0), [], .ofNat 69), (zyx7r, zyh19), 5, 540),
  ((44, ([(0, .inr (.inr (.inl 94))), (1, .inl ((.ofNat 0, .ofNat 21), some (1, .ofNat 0))), (2, .inl ((.ofNat 60, .ofNat 158), some (2, .ofNat 0))), (3, .inl ((.ofNat 60, .ofNat 158), some (3, .ofNat 0)))], [], zyh145, 0, 0), [], .ofNat 71), (zyx7r, zyh19), 5, 540),
  ((44, ([(0, .inr (.inr (.inl 94))), (1, .inl ((.ofNat 0, .ofNat 21), some (1, .ofNat 0))), (2, .inl ((.ofNat 61, .ofNat 158), some (2, .ofNat 0))), (3, .inl ((.negSucc 97, .ofNat 158), some (3, .ofNat 0)))], [], zyh146, 0, 0), [], .ofNat 65), (zyx7r, zyh19), 5, 540),
  ((44, ([(0, .inr (.inr (.inl 94))), (1, .inl ((.ofNat 0, .ofNat 21), some (1, .ofNat 0))), (2, .inl ((.ofNat 61, .ofNat 158), some (2, .ofNat 0))), (3, .inl ((.ofNat 61, .ofNat 158), some (3, .ofNat 0)))], [], zyh147, 0, 0), [], .ofNat 67), (zyx7r, zyh19), 5, 540),
  ((44, ([(0, .inr (.inr (.inl 94))), (1, .inl ((.ofNat 0, .ofNat 21), some (1, .ofNat 0))), (2, .inl ((.ofNat 62, .ofNat 158), some (2, .ofNat 0))), (3, .inl ((.negSucc 97, .ofNat 158), some (3, .ofNat 0)))], [], zyh148, 0, 0), [], .ofNat 61), (zyx7r, zyh19), 5, 540),
  ((44, ([(0, .inr (.inr (.inl 94))), (1, .inl ((.ofNat 0, .ofNat 21), some (1, .ofNat 0))), (2, .inl ((.ofNat 62, .ofNat 158), some (2, .ofNat 0))), (3, .inl ((.ofNat 62, .ofNat 158), some (3, .ofNat 0)))], [], zyh149, 0, 0), [], .ofNat 63), (zyx7r, zyh19), 5, 540),
  ((44, ([(0, .inr (.inr (.inl 94))), (1, .inl ((.ofNat 0, .ofNat 21), some (1, .ofNat 0))), (2, .inl ((.ofNat 63, .ofNat 158), some (2, .ofNat 0))), (3, .inl ((.negSucc 97, .ofNat 158), some (3, .ofNat 0)))], [], zyh150, 0, 0), [], .ofNat 57), (zyx7r, zyh19), 5, 540),
  ((44, ([(0, .inr (.inr (.inl 94))), (1, .inl ((.ofNat 0, .ofNat 21), some (1, .ofNat 0))), (2, .inl ((.ofNat 63, .ofNat 158), some (2, .ofNat 0))), (3, .inl ((.ofNat 63, .ofNat 158), some (3, .ofNat 0)))], [], zyh151, 0, 0), [], .ofNat 59), (zyx7r, zyh19), 5, 540),
  ((44, ([(0, .inr (.inr (.inl 94))), (1, .inl ((.ofNat 0, .ofNat 21), some (1, .ofNat 0))), (2, .inl ((.ofNat 64, .ofNat 158), some (2, .ofNat 0))), (3, .inl ((.negSucc 97, .ofNat 158), some (3, .ofNat 0)))], [], zyh152, 0, 0), [], .ofNat 53), (zyx7r, zyh19), 5, 540),
  ((44, ([(0, .inr (.inr (.inl 94))), (1, .inl ((.ofNat 0, .ofNat 21), some (1, .ofNat 0))), (2, .inl ((.ofNat 64, .ofNat 158), some (2, .ofNat 0))), (3, .inl ((.ofNat 64, .ofNat 158), some (3, .ofNat 0)))], [], zyh153, 0, 0), [], .ofNat 55), (zyx7r, zyh19), 5, 540),
  ((44, ([(0, .inr (.inr (.inl 94))), (1, .inl ((.ofNat 0, .ofNat 21), some (1, .ofNat 0))), (2, .inl ((.ofNat 65, .ofNat 158), some (2, .ofNat 0))), (3, .inl ((.negSucc 97, .ofNat 158), some (3, .ofNat 0)))], [], zyh154, 0, 0), [], .ofNat 49), (zyx7r, zyh19), 5, 540),
  ((44, ([(0, .inr (.inr (.inl 94))), (1, .inl ((.ofNat 0, .ofNat 21), some (1, .ofNat 0))), (2, .inl ((.ofNat 65, .ofNat 158), some (2, .ofNat 0))), (3, .inl ((.ofNat 65, .ofNat 158), some (3, .ofNat 0)))], [], zyh155, 0, 0), [], .ofNat 51), (zyx7r, zyh19), 5, 540),
  ((44, ([(0, .inr (.inr (.inl 94))), (1, .inl ((.ofNat 0, .ofNat 21), some (1, .ofNat 0))), (2, .inl ((.ofNat 66, .ofNat 158), some (2, .ofNat 0))), (3, .inl ((.negSucc 97, .ofNat 158), some (3, .ofNat 0)))], [], zyh156, 0, 0), [], .ofNat 45), (zyx7r, zyh19), 5, 540),
  ((44, ([(0, .inr (.inr (.inl 94))), (1, .inl ((.ofNat 0, .ofNat 21), some (1, .ofNat 0))), (2, .inl ((.ofNat 66, .ofNat 158), some (2, .ofNat 0))), (3, .inl ((.ofNat 66, .ofNat 158), some (3, .ofNat 0)))], [], zyh157, 0, 0), [], .ofNat 47), (zyx7r, zyh19), 5, 540),
  ((44, ([(0, .inr (.inr (.inl 94))), (1, .inl ((.ofNat 0, .ofNat 21), some (1, .ofNat 0))), (2, .inl ((.ofNat 67, .ofNat 158), some (2, .ofNat 0))), (3, .inl ((.negSucc 97, .ofNat 158), some (3, .ofNat 0)))], [], zyh158, 0, 0), [], .ofNat 41), (zyx7r, zyh19), 5, 540),
  ((44, ([(0, .inr (.inr (.inl 94))), (1, .inl ((.ofNat 0, .ofNat 21), some (1, .ofNat 0))), (2, .inl ((.ofNat 67, .ofNat 158), some (2, .ofNat 0))), (3, .inl ((.ofNat 67, .ofNat 158), some (3, .ofNat 0)))], [], zyh159, 0, 0), [], .ofNat 43), (zyx7r, zyh19), 5, 540),
  ((44, ([(0, .inr (.inr (.inl 94))), (1, .inl ((.ofNat 0, .ofNat 21), some (1, .ofNat 0))), (2, .inl ((.ofNat 68, .ofNat 158), some (2, .ofNat 0))), (3, .inl ((.negSucc 97, .ofNat 158), some (3, .ofNat 0)))], [], zyh160, 0, 0), [], .ofNat 37), (zyx7r, zyh19), 5, 540),
  ((44, ([(0, .inr (.inr (.inl 94))), (1, .inl ((.ofNat 0, .ofNat 21), some (1, .ofNat 0))), (2, .inl ((.ofNat 68, .ofNat 158), some (2, .ofNat 0))), (3, .inl ((.ofNat 68, .ofNat 158), some (3, .ofNat 0)))], [], zyh161, 0, 0), [], .ofNat 39), (zyx7r, zyh19), 5, 540),
  ((44, ([(0, .inr (.inr (.inl 94))), (1, .inl ((.ofNat 0, .ofNat 21), some (1, .ofNat 0))), (2, .inl ((.ofNat 69, .ofNat 158), some (2, .ofNat 0))), (3, .inl ((.negSucc 97, .ofNat 158), some (3, .ofNat 0)))], [], zyh162, 0, 0), [], .ofNat 33), (zyx7r, zyh19), 5, 540),
  ((44, ([(0, .inr (.inr (.inl 94))), (1, .inl ((.ofNat 0, .ofNat 21), some (1, .ofNat 0))), (2, .inl ((.ofNat 69, .ofNat 158), some (2, .ofNat 0))), (3, .inl ((.ofNat 69, .ofNat 158), some (3, .ofNat 0)))], [], zyh163, 0, 0), [], .ofNat 35), (zyx7r, zyh19), 5, 540),
  ((44, ([(0, .inr (.inr (.inl 94))), (1, .inl ((.ofNat 0, .ofNat 21), some (1, .ofNat 0))), (2, .inl ((.ofNat 70, .ofNat 158), some (2, .ofNat 0))), (3, .inl ((.negSucc 97, .ofNat 158), some (3, .ofNat 0)))], [], zyh164, 0, 0), [], .ofNat 29), (zyx7r, zyh19), 5, 540),
  ((44, ([(0, .inr (.inr (.inl 94))), (1, .inl ((.ofNat 0, .ofNat 21), some (1, .ofNat 0))), (2, .inl ((.ofNat 70, .ofNat 158), some (2, .ofNat 0))), (3, .inl ((.ofNat 70, .ofNat 158), some (3, .ofNat 0)))], [], zyh165, 0, 0), [], .ofNat 31), (zyx7r, zyh19), 5, 540),
  ((44, ([(0, .inr (.inr (.inl 94))), (1, .inl ((.ofNat 0, .ofNat 21), some (1, .ofNat 0))), (2, .inl ((.ofNat 71, .ofNat 158), some (2, .ofNat 0))), (3, .inl ((.negSucc 97, .ofNat 158), some (3, .ofNat 0)))], [], zyh166, 0, 0), [], .ofNat 25), (zyx7r, zyh19), 5, 540),
  ((44, ([(0, .inr (.inr (.inl 94))), (1, .inl ((.ofNat 0, .ofNat 21), some (1, .ofNat 0))), (2, .inl ((.ofNat 71, .ofNat 158), some (2, .ofNat 0))), (3, .inl ((.ofNat 71, .ofNat 158), some (3, .ofNat 0)))], [], zyh167, 0, 0), [], .ofNat 27), (zyx7r, zyh19), 5, 540),
  ((44, ([(0, .inr (.inr (.inl 94))), (1, .inl ((.ofNat 0, .ofNat 21), some (1, .ofNat 0))), (2, .inl ((.ofNat 72, .ofNat 158), some (2, .ofNat 0))), (3, .inl ((.negSucc 97, .ofNat 158), some (3, .ofNat 0)))], [], zyh168, 0, 0), [], .ofNat 21), (zyx7r, zyh19), 5, 540),
  ((44, ([(0, .inr (.inr (.inl 94))), (1, .inl ((.ofNat 0, .ofNat 21), some (1, .ofNat 0))), (2, .inl ((.ofNat 72, .ofNat 158), some (2, .ofNat 0))), (3, .inl ((.ofNat 72, .ofNat 158), some (3, .ofNat 0)))], [], zyh169, 0, 0), [], .ofNat 23), (zyx7r, zyh19), 5, 540),
  ((44, ([(0, .inr (.inr (.inl 94))), (1, .inl ((.ofNat 0, .ofNat 21), some (1, .ofNat 0))), (2, .inl ((.negSucc 0, .negSucc 0), some (2, .ofNat 0)))], [], zyh170, 0, 0), [], .ofNat 17), (zyx7r, zyh19), 5, 540),
  ((44, ([(0, .inr (.inr (.inl 94))), (1, .inl ((.ofNat 0, .ofNat 21), some (1, .ofNat 0))), (2, .inl ((.ofNat 73, .ofNat 158), some (2, .ofNat 0))), (3, .inl ((.ofNat 73, .ofNat 158), some (3, .ofNat 0)))], [], zyh171, 0, 0), [], .ofNat 19), (zyx7r, zyh19), 5, 540)]
noncomputable def zyx7d : zKw := (267, 4, 5, 540, zyx7a, zyh18, [(zyx7r, zyh19)])
noncomputable def zbzyx7c : Bool := zchkX [(94, 15), (94, 16)] zprog2 (zovW []) 100000 k2X8_readMan [] zyx7p zyx7p
noncomputable def zbzyx7e : Bool := zrunw zprog2 (zovW []) 100000 (zcutW [(94, 15), (94, 16)] none ((zyx7r, zyh19), 5, 540) zyx7p) 5 540 k2X8_readMan (zkin zyx7r zyh19) 0 (zargs 0 zyx7a, [], (zyh18.1, zyh18.2.1, 0), 0, 0)
noncomputable def zyg0 : List Bool := [zbzyx0e, zbzyx1e, zbzyx2e, zbzyx3e, zbzyx4c, zbzyx4e, zbzyx5c, zbzyx5e, zbzyx6e, zbzyx7c, zbzyx7e]
set_option maxRecDepth 100000 in
theorem zyg0_ok : zall (fun b => b) zyg0 = true := by decide +kernel
theorem zyx0e : zrunw zprog2 (zovW []) 100000 (zcutW [] none ((zyx0r, zyh1), 3, 420) zyx0p) 3 420 kX7_sign (zkin zyx0r zyh1) 0 (zargs 0 zyx0a, [], (zyh0.1, zyh0.2.1, 0), 0, 0) = true := zall_ok zyg0_ok (k := 0) (a := zbzyx0e) rfl
theorem zyx0 {l : Launch} {D : va_G} {tys : List (ClassId × FieldType)} {o : zO} {z : Nat} (E : zEnv tys) : zKnW l D vwCl tys o z (zXX o z) zTs zprog2 zyx0d :=
  zkn_mk E (fun g => fun _ h => absurd h List.not_mem_nil) (show zget zprog2 167 = some mX7_sign from rfl) rfl (by decide) (by decide) (by decide) (by decide) (G := zyx0p) (fun _ h => absurd h List.not_mem_nil) zyx0e
theorem zyx1e : zrunw zprog2 (zovW []) 100000 (zcutW [] none ((zyx1r, zyh2), 2, 300) zyx1p) 2 300 k2X8_sign (zkin zyx1r zyh2) 0 (zargs 0 zyx1a, [], (zyh0.1, zyh0.2.1, 0), 0, 0) = true := zall_ok zyg0_ok (k := 1) (a := zbzyx1e) rfl
theorem zyx1 {l : Launch} {D : va_G} {tys : List (ClassId × FieldType)} {o : zO} {z : Nat} (E : zEnv tys) : zKnW l D vwCl tys o z (zXX o z) zTs zprog2 zyx1d :=
  zkn_mk E (fun g => fun _ h => absurd h List.not_mem_nil) (show zget zprog2 280 = some m2X8_sign from rfl) rfl (by decide) (by decide) (by decide) (by decide) (G := zyx1p) (fun _ h => absurd h List.not_mem_nil) zyx1e
theorem zyx2e : zrunw zprog2 (zovW []) 100000 (zcutW [] none ((zyx2r, zyh3), 3, 420) zyx2p) 3 420 k2X7_end (zkin zyx2r zyh3) 0 (zargs 0 zyx2a, [], (zyh0.1, zyh0.2.1, 0), 0, 0) = true := zall_ok zyg0_ok (k := 2) (a := zbzyx2e) rfl
theorem zyx2 {l : Launch} {D : va_G} {tys : List (ClassId × FieldType)} {o : zO} {z : Nat} (E : zEnv tys) : zKnW l D vwCl tys o z (zXX o z) zTs zprog2 zyx2d :=
  zkn_mk E (fun g => fun _ h => absurd h List.not_mem_nil) (show zget zprog2 115 = some m2X7_end from rfl) rfl (by decide) (by decide) (by decide) (by decide) (G := zyx2p) (fun _ h => absurd h List.not_mem_nil) zyx2e
theorem zyx3e : zrunw zprog2 (zovW []) 100000 (zcutW [] none ((zyx3r, zyh4), 3, 420) zyx3p) 3 420 k2X8_end (zkin zyx3r zyh4) 0 (zargs 0 zyx3a, [], (zyh0.1, zyh0.2.1, 0), 0, 0) = true := zall_ok zyg0_ok (k := 3) (a := zbzyx3e) rfl
theorem zyx3 {l : Launch} {D : va_G} {tys : List (ClassId × FieldType)} {o : zO} {z : Nat} (E : zEnv tys) : zKnW l D vwCl tys o z (zXX o z) zTs zprog2 zyx3d :=
  zkn_mk E (fun g => fun _ h => absurd h List.not_mem_nil) (show zget zprog2 205 = some m2X8_end from rfl) rfl (by decide) (by decide) (by decide) (by decide) (G := zyx3p) (fun _ h => absurd h List.not_mem_nil) zyx3e
theorem zyx4c : zchkX [(3, 6)] zprog2 (zovW []) 100000 k2X0_readRiders [] zyx4p zyx4p = true := zall_ok zyg0_ok (k := 4) (a := zbzyx4c) rfl
theorem zyx4e : zrunw zprog2 (zovW []) 100000 (zcutW [(3, 6)] none ((zyx4r, zyh5), 4, 480) zyx4p) 4 480 k2X0_readRiders (zkin zyx4r zyh5) 0 (zargs 0 zyx4a, [], (zyh0.1, zyh0.2.1, 0), 0, 0) = true := zall_ok zyg0_ok (k := 5) (a := zbzyx4e) rfl
theorem zyx4 {l : Launch} {D : va_G} {tys : List (ClassId × FieldType)} {o : zO} {z : Nat} (E : zEnv tys) : zKnW l D vwCl tys o z (zXX o z) zTs zprog2 zyx4d :=
  zkn_mk E (fun g => fun _ h => absurd h List.not_mem_nil) (show zget zprog2 27 = some m2X0_readRiders from rfl) rfl (by decide) (by decide) (by decide) (by decide) (G := zyx4p) (zkn_pt E (fun g => fun _ h => absurd h List.not_mem_nil) (show zget zprog2 27 = some m2X0_readRiders from rfl) (fun _ h => absurd h List.not_mem_nil) zyx4c) zyx4e
theorem zyx5c : zchkX [] zprog2 (zovW []) 100000 kX7_forgetKept [] zyx5p zyx5p = true := zall_ok zyg0_ok (k := 6) (a := zbzyx5c) rfl
theorem zyx5e : zrunw zprog2 (zovW []) 100000 (zcutW [] none ((zyx5r, zyh16), 2, 300) zyx5p) 2 300 kX7_forgetKept (zkin zyx5r zyh16) 0 (zargs 0 zyx5a, [], (zyh15.1, zyh15.2.1, 0), 0, 0) = true := zall_ok zyg0_ok (k := 7) (a := zbzyx5e) rfl
theorem zyx5 {l : Launch} {D : va_G} {tys : List (ClassId × FieldType)} {o : zO} {z : Nat} (E : zEnv tys) : zKnW l D vwCl tys o z (zXX o z) zTs zprog2 zyx5d :=
  zkn_mk E (fun g => fun _ h => absurd h List.not_mem_nil) (show zget zprog2 122 = some mX7_forgetKept from rfl) rfl (by decide) (by decide) (by decide) (by decide) (G := zyx5p) (zkn_pt E (fun g => fun _ h => absurd h List.not_mem_nil) (show zget zprog2 122 = some mX7_forgetKept from rfl) (fun _ h => absurd h List.not_mem_nil) zyx5c) zyx5e
theorem zyx6e : zrunw zprog2 (zovW [zyx4d, zyx5d]) 100000 (zcutW [] none ((zyx6r, zyh17), 5, 600) zyx6p) 5 600 kX7_riders (zkin zyx6r zyh17) 0 (zargs 0 zyx6a, [], (zyh0.1, zyh0.2.1, 0), 0, 0) = true := zall_ok zyg0_ok (k := 8) (a := zbzyx6e) rfl
theorem zyx6 {l : Launch} {D : va_G} {tys : List (ClassId × FieldType)} {o : zO} {z : Nat} (E : zEnv tys) : zKnW l D vwCl tys o z (zXX o z) zTs zprog2 zyx6d :=
  zkn_mk E (fun g => List.forall_mem_cons.mpr ⟨zyx4 (o := zwith o g) E, List.forall_mem_cons.mpr ⟨zyx5 (o := zwith o g) E, fun _ h => absurd h List.not_mem_nil⟩⟩) (show zget zprog2 158 = some mX7_riders from rfl) rfl (by decide) (by decide) (by decide) (by decide) (G := zyx6p) (fun _ h => absurd h List.not_mem_nil) zyx6e
theorem zyx7c : zchkX [(94, 15), (94, 16)] zprog2 (zovW []) 100000 k2X8_readMan [] zyx7p zyx7p = true := zall_ok zyg0_ok (k := 9) (a := zbzyx7c) rfl
theorem zyx7e : zrunw zprog2 (zovW []) 100000 (zcutW [(94, 15), (94, 16)] none ((zyx7r, zyh19), 5, 540) zyx7p) 5 540 k2X8_readMan (zkin zyx7r zyh19) 0 (zargs 0 zyx7a, [], (zyh18.1, zyh18.2.1, 0), 0, 0) = true := zall_ok zyg0_ok (k := 10) (a := zbzyx7e) rfl
theorem zyx7 {l : Launch} {D : va_G} {tys : List (ClassId × FieldType)} {o : zO} {z : Nat} (E : zEnv tys) : zKnW l D vwCl tys o z (zXX o z) zTs zprog2 zyx7d :=
  zkn_mk E (fun g => fun _ h => absurd h List.not_mem_nil) (show zget zprog2 267 = some m2X8_readMan from rfl) rfl (by decide) (by decide) (by decide) (by decide) (G := zyx7p) (zkn_pt E (fun g => fun _ h => absurd h List.not_mem_nil) (show zget zprog2 267 = some m2X8_readMan from rfl) (fun _ h => absurd h List.not_mem_nil) zyx7c) zyx7e

