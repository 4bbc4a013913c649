/-! BY HAND: what solve() and goSmooth() do with values -/
noncomputable def zur0 : List zC := [.inr (7, [.inr (.inr (.inr (.inr 100))), .inr (.inr (.inr (.inr 100))), .inr (.inr (.inr (.inr 100))), .inr (.inr (.inr (.inr 100))), .inr (.inr (.inr (.inr 100))), .inr (.inr (.inr (.inr 100))), .inr (.inr (.inr (.inr 100))), .inr (.inr (.inr (.inr 100))), .inr (.inr (.inr (.inr 100))), .inr (.inr (.inr (.inr 100))), .inr (.inr (.inr (.inr 100))), .inr (.inr (.inr (.inr 100))), .inr (.inr (.inr (.inr 100))), .inl ((.negSucc 2147483647, .ofNat 2147483647), none), .inr (.inr (.inr (.inr 100))), .inl ((.negSucc 2147483647, .ofNat 2147483647), none)]),
  .inr (6, [.inr (.inr (.inr (.inr 100))), .inl ((.negSucc 2147483647, .ofNat 2147483647), none)]),
  .inl (0, 80, [[], [.inl ((.negSucc 2147483647, .ofNat 2147483647), none)]]),
  .inr (0, [.inr (.inr (.inr (.inr 100))), .inr (.inr (.inr (.inr 100))), .inr (.inr (.inr (.inr 100))), .inr (.inr (.inr (.inr 100))), .inr (.inr (.inr (.inr 100))), .inr (.inr (.inr (.inr 100))), .inl ((.negSucc 2147483647, .ofNat 2147483647), none), .inl ((.negSucc 2147483647, .ofNat 2147483647), none), .inl ((.negSucc 2147483647, .ofNat 2147483647), none), .inr (.inr (.inr (.inr 100))), .inl ((.negSucc 2147483647, .ofNat 2147483647), none), .inl ((.negSucc 2147483647, .ofNat 2147483647), none)]),
  .inl (0, 8, [[], [.inl ((.negSucc 2147483647, .ofNat 2147483647), none)]]),
  .inl (0, 8, [[], [.inl ((.negSucc 2147483647, .ofNat 2147483647), none)]]),
  .inl (0, 8, [[], [.inl ((.negSucc 2147483647, .ofNat 2147483647), none)]]),
  .inl (0, 7, [[], [.inl ((.negSucc 2147483647, .ofNat 2147483647), none)]]),
  .inl (0, 8, [[], [.inl ((.negSucc 2147483647, .ofNat 2147483647), none)]]),
  .inl (0, 8, [[], [.inl ((.negSucc 2147483647, .ofNat 2147483647), none)]]),
  .inr (3, [.inr (.inr (.inr (.inr 100))), .inr (.inr (.inr (.inr 100))), .inr (.inr (.inr (.inr 100))), .inr (.inr (.inr (.inr 100))), .inl ((.negSucc 2147483647, .ofNat 2147483647), none), .inl ((.negSucc 2147483647, .ofNat 2147483647), none), .inl ((.negSucc 2147483647, .ofNat 2147483647), none), .inl ((.negSucc 2147483647, .ofNat 2147483647), none), .inl ((.ofNat 0, .ofNat 1), none)]),
  .inl (0, 40, [[], [.inl ((.negSucc 2147483647, .ofNat 2147483647), none)]]),
  .inl (0, 40, [[], [.inl ((.negSucc 2147483647, .ofNat 2147483647), none)]]),
  .inl (0, 40, [[], [.inl ((.negSucc 2147483647, .ofNat 2147483647), none)]]),
  .inl (2, 5, [[], [.inl ((.ofNat 0, .ofNat 1), none)]]),
  .inr (5, [.inr (.inr (.inr (.inr 100))), .inr (.inr (.inr (.inr 100))), .inl ((.negSucc 2147483647, .ofNat 2147483647), none), .inl ((.negSucc 2147483647, .ofNat 2147483647), none), .inl ((.negSucc 2147483647, .ofNat 2147483647), none), .inl ((.negSucc 2147483647, .ofNat 2147483647), none)])]
noncomputable def zur1 : List zC := [.inl (0, 8, [[], [.inl ((.negSucc 2147483647, .ofNat 2147483647), none)]]),
  .inl (0, 8, [[], [.inl ((.negSucc 2147483647, .ofNat 2147483647), none)]]),
  .inr (5, [.inr (.inr (.inr (.inr 100))), .inr (.inr (.inr (.inr 100))), .inl ((.negSucc 2147483647, .ofNat 2147483647), none), .inl ((.negSucc 2147483647, .ofNat 2147483647), none), .inl ((.negSucc 2147483647, .ofNat 2147483647), none), .inl ((.negSucc 2147483647, .ofNat 2147483647), none)]),
  .inl (0, 8, [[], [.inl ((.negSucc 2147483647, .ofNat 2147483647), none)]]),
  .inl (0, 8, [[], [.inl ((.negSucc 2147483647, .ofNat 2147483647), none)]]),
  .inr (5, [.inr (.inr (.inr (.inr 100))), .inr (.inr (.inr (.inr 100))), .inl ((.negSucc 2147483647, .ofNat 2147483647), none), .inl ((.negSucc 2147483647, .ofNat 2147483647), none), .inl ((.negSucc 2147483647, .ofNat 2147483647), none), .inl ((.negSucc 2147483647, .ofNat 2147483647), none)]),
  .inl (0, 8, [[], [.inl ((.negSucc 2147483647, .ofNat 2147483647), none)]]),
  .inl (0, 8, [[], [.inl ((.negSucc 2147483647, .ofNat 2147483647), none)]]),
  .inr (2, [.inr (.inr (.inr (.inr 100))), .inl ((.negSucc 2147483647, .ofNat 2147483647), none), .inl ((.negSucc 2147483647, .ofNat 2147483647), none)]),
  .inl (9, 12, [[], [.inr (.inr (.inr (.inr 100)))]]),
  .inr (5, [.inr (.inr (.inr (.inr 100))), .inr (.inr (.inr (.inr 100))), .inl ((.negSucc 2147483647, .ofNat 2147483647), none), .inl ((.negSucc 2147483647, .ofNat 2147483647), none), .inl ((.negSucc 2147483647, .ofNat 2147483647), none), .inl ((.negSucc 2147483647, .ofNat 2147483647), none)]),
  .inl (0, 8, [[], [.inl ((.negSucc 2147483647, .ofNat 2147483647), none)]]),
  .inl (0, 8, [[], [.inl ((.negSucc 2147483647, .ofNat 2147483647), none)]]),
  .inr (5, [.inr (.inr (.inr (.inr 100))), .inr (.inr (.inr (.inr 100))), .inl ((.negSucc 2147483647, .ofNat 2147483647), none), .inl ((.negSucc 2147483647, .ofNat 2147483647), none), .inl ((.negSucc 2147483647, .ofNat 2147483647), none), .inl ((.negSucc 2147483647, .ofNat 2147483647), none)]),
  .inl (0, 8, [[], [.inl ((.negSucc 2147483647, .ofNat 2147483647), none)]]),
  .inl (0, 8, [[], [.inl ((.negSucc 2147483647, .ofNat 2147483647), none)]])]
noncomputable def zur2 : List zC := [.inr (5, [.inr (.inr (.inr (.inr 100))), .inr (.inr (.inr (.inr 100))), .inl ((.negSucc 2147483647, .ofNat 2147483647), none), .inl ((.negSucc 2147483647, .ofNat 2147483647), none), .inl ((.negSucc 2147483647, .ofNat 2147483647), none), .inl ((.negSucc 2147483647, .ofNat 2147483647), none)]),
  .inl (0, 8, [[], [.inl ((.negSucc 2147483647, .ofNat 2147483647), none)]]),
  .inl (0, 8, [[], [.inl ((.negSucc 2147483647, .ofNat 2147483647), none)]]),
  .inr (5, [.inr (.inr (.inr (.inr 100))), .inr (.inr (.inr (.inr 100))), .inl ((.negSucc 2147483647, .ofNat 2147483647), none), .inl ((.negSucc 2147483647, .ofNat 2147483647), none), .inl ((.negSucc 2147483647, .ofNat 2147483647), none), .inl ((.negSucc 2147483647, .ofNat 2147483647), none)]),
  .inl (0, 8, [[], [.inl ((.negSucc 2147483647, .ofNat 2147483647), none)]]),
  .inl (0, 8, [[], [.inl ((.negSucc 2147483647, .ofNat 2147483647), none)]]),
  .inr (5, [.inr (.inr (.inr (.inr 100))), .inr (.inr (.inr (.inr 100))), .inl ((.negSucc 2147483647, .ofNat 2147483647), none), .inl ((.negSucc 2147483647, .ofNat 2147483647), none), .inl ((.negSucc 2147483647, .ofNat 2147483647), none), .inl ((.negSucc 2147483647, .ofNat 2147483647), none)]),
  .inl (0, 8, [[], [.inl ((.negSucc 2147483647, .ofNat 2147483647), none)]]),
  .inl (0, 8, [[], [.inl ((.negSucc 2147483647, .ofNat 2147483647), none)]]),
  .inr (5, [.inr (.inr (.inr (.inr 100))), .inr (.inr (.inr (.inr 100))), .inl ((.negSucc 2147483647, .ofNat 2147483647), none), .inl ((.negSucc 2147483647, .ofNat 2147483647), none), .inl ((.negSucc 2147483647, .ofNat 2147483647), none), .inl ((.negSucc 2147483647, .ofNat 2147483647), none)]),
  .inl (0, 8, [[], [.inl ((.negSucc 2147483647, .ofNat 2147483647), none)]]),
  .inl (0, 8, [[], [.inl ((.negSucc 2147483647, .ofNat 2147483647), none)]]),
  .inr (5, [.inr (.inr (.inr (.inr 100))), .inr (.inr (.inr (.inr 100))), .inl ((.negSucc 2147483647, .ofNat 2147483647), none), .inl ((.negSucc 2147483647, .ofNat 2147483647), none), .inl ((.negSucc 2147483647, .ofNat 2147483647), none), .inl ((.negSucc 2147483647, .ofNat 2147483647), none)]),
  .inl (0, 8, [[], [.inl ((.negSucc 2147483647, .ofNat 2147483647), none)]]),
  .inl (0, 8, [[], [.inl ((.negSucc 2147483647, .ofNat 2147483647), none)]]),
  .inr (5, [.inr (.inr (.inr (.inr 100))), .inr (.inr (.inr (.inr 100))), .inl ((.negSucc 2147483647, .ofNat 2147483647), none), .inl ((.negSucc 2147483647, .ofNat 2147483647), none), .inl ((.negSucc 2147483647, .ofNat 2147483647), none), .inl ((.negSucc 2147483647, .ofNat 2147483647), none)])]
noncomputable def zur3 : List zC := [.inl (0, 8, [[], [.inl ((.negSucc 2147483647, .ofNat 2147483647), none)]]),
  .inl (0, 8, [[], [.inl ((.negSucc 2147483647, .ofNat 2147483647), none)]]),
  .inr (5, [.inr (.inr (.inr (.inr 100))), .inr (.inr (.inr (.inr 100))), .inl ((.negSucc 2147483647, .ofNat 2147483647), none), .inl ((.negSucc 2147483647, .ofNat 2147483647), none), .inl ((.negSucc 2147483647, .ofNat 2147483647), none), .inl ((.negSucc 2147483647, .ofNat 2147483647), none)]),
  .inl (0, 8, [[], [.inl ((.negSucc 2147483647, .ofNat 2147483647), none)]]),
  .inl (0, 8, [[], [.inl ((.negSucc 2147483647, .ofNat 2147483647), none)]]),
  .inr (5, [.inr (.inr (.inr (.inr 100))), .inr (.inr (.inr (.inr 100))), .inl ((.negSucc 2147483647, .ofNat 2147483647), none), .inl ((.negSucc 2147483647, .ofNat 2147483647), none), .inl ((.negSucc 2147483647, .ofNat 2147483647), none), .inl ((.negSucc 2147483647, .ofNat 2147483647), none)]),
  .inl (0, 8, [[], [.inl ((.negSucc 2147483647, .ofNat 2147483647), none)]]),
  .inl (0, 8, [[], [.inl ((.negSucc 2147483647, .ofNat 2147483647), none)]]),
  .inr (5, [.inr (.inr (.inr (.inr 100))), .inr (.inr (.inr (.inr 100))), .inl ((.negSucc 2147483647, .ofNat 2147483647), none), .inl ((.negSucc 2147483647, .ofNat 2147483647), none), .inl ((.negSucc 2147483647, .ofNat 2147483647), none), .inl ((.negSucc 2147483647, .ofNat 2147483647), none)]),
  .inl (0, 8, [[], [.inl ((.negSucc 2147483647, .ofNat 2147483647), none)]]),
  .inl (0, 8, [[], [.inl ((.negSucc 2147483647, .ofNat 2147483647), none)]]),
  .inr (5, [.inr (.inr (.inr (.inr 100))), .inr (.inr (.inr (.inr 100))), .inl ((.negSucc 2147483647, .ofNat 2147483647), none), .inl ((.negSucc 2147483647, .ofNat 2147483647), none), .inl ((.negSucc 2147483647, .ofNat 2147483647), none), .inl ((.negSucc 2147483647, .ofNat 2147483647), none)]),
  .inl (0, 8, [[], [.inl ((.negSucc 2147483647, .ofNat 2147483647), none)]]),
  .inl (0, 8, [[], [.inl ((.negSucc 2147483647, .ofNat 2147483647), none)]]),
  .inl (9, 2, [[], [.inr (.inr (.inr (.inr 100)))]]),
  .inl (2, 2, [[], [.inl ((.ofNat 0, .ofNat 1), none)]])]
noncomputable def zur4 : List zC := [.inr (4, [.inr (.inr (.inr (.inr 100))), .inr (.inr (.inr (.inr 100))), .inr (.inr (.inr (.inr 100))), .inr (.inr (.inr (.inr 100))), .inr (.inr (.inr (.inr 100))), .inr (.inr (.inr (.inr 100))), .inr (.inr (.inr (.inr 100))), .inr (.inr (.inr (.inr 100))), .inr (.inr (.inr (.inr 100))), .inr (.inr (.inr (.inr 100))), .inr (.inr (.inr (.inr 100))), .inr (.inr (.inr (.inr 100))), .inr (.inr (.inr (.inr 100))), .inl ((.negSucc 2147483647, .ofNat 2147483647), none), .inr (.inl (.negSucc 9223372036854775807, .ofNat 9223372036854775807))]),
  .inl (0, 8, [[], [.inl ((.negSucc 2147483647, .ofNat 2147483647), none)]]),
  .inl (0, 8, [[], [.inl ((.negSucc 2147483647, .ofNat 2147483647), none)]]),
  .inl (0, 8, [[], [.inl ((.negSucc 2147483647, .ofNat 2147483647), none)]]),
  .inl (0, 8, [[], [.inl ((.negSucc 2147483647, .ofNat 2147483647), none)]]),
  .inl (1, 64, [[], [.inr (.inl (.negSucc 9223372036854775807, .ofNat 9223372036854775807))]]),
  .inl (1, 8, [[], [.inr (.inl (.negSucc 9223372036854775807, .ofNat 9223372036854775807))]]),
  .inl (1, 256, [[], [.inr (.inl (.negSucc 9223372036854775807, .ofNat 9223372036854775807))]]),
  .inl (1, 256, [[], [.inr (.inl (.negSucc 9223372036854775807, .ofNat 9223372036854775807))]]),
  .inl (0, 2304, [[], [.inl ((.negSucc 2147483647, .ofNat 2147483647), none)]]),
  .inl (0, 256, [[], [.inl ((.negSucc 2147483647, .ofNat 2147483647), none)]]),
  .inl (0, 64, [[], [.inl ((.negSucc 2147483647, .ofNat 2147483647), none)]]),
  .inl (2, 256, [[], [.inl ((.ofNat 0, .ofNat 1), none)]]),
  .inl (0, 256, [[], [.inl ((.negSucc 2147483647, .ofNat 2147483647), none)]]),
  .inr (1, [.inr (.inr (.inr (.inr 100))), .inl ((.negSucc 2147483647, .ofNat 2147483647), none)]),
  .inl (1, 8, [[], [.inr (.inl (.negSucc 9223372036854775807, .ofNat 9223372036854775807))]])]
noncomputable def zur5 : List zC := [.inl (0, 12, [[], [.inl ((.negSucc 2147483647, .ofNat 2147483647), none)]]),
  .inl (0, 12, [[], [.inl ((.negSucc 2147483647, .ofNat 2147483647), none)]]),
  .inl (0, 12, [[], [.inl ((.negSucc 2147483647, .ofNat 2147483647), none)]]),
  .inr (3, [.inr (.inr (.inr (.inr 100))), .inr (.inr (.inr (.inr 100))), .inr (.inr (.inr (.inr 100))), .inr (.inr (.inr (.inr 100))), .inl ((.negSucc 2147483647, .ofNat 2147483647), none), .inl ((.negSucc 2147483647, .ofNat 2147483647), none), .inl ((.negSucc 2147483647, .ofNat 2147483647), none), .inl ((.negSucc 2147483647, .ofNat 2147483647), none), .inl ((.ofNat 0, .ofNat 1), none)]),
  .inl (0, 40, [[], [.inl ((.negSucc 2147483647, .ofNat 2147483647), none)]]),
  .inl (0, 40, [[], [.inl ((.negSucc 2147483647, .ofNat 2147483647), none)]]),
  .inl (0, 40, [[], [.inl ((.negSucc 2147483647, .ofNat 2147483647), none)]]),
  .inl (2, 5, [[], [.inl ((.ofNat 0, .ofNat 1), none)]]),
  .inr (5, [.inr (.inr (.inr (.inr 100))), .inr (.inr (.inr (.inr 100))), .inl ((.negSucc 2147483647, .ofNat 2147483647), none), .inl ((.negSucc 2147483647, .ofNat 2147483647), none), .inl ((.negSucc 2147483647, .ofNat 2147483647), none), .inl ((.negSucc 2147483647, .ofNat 2147483647), none)]),
  .inl (0, 8, [[], [.inl ((.negSucc 2147483647, .ofNat 2147483647), none)]]),
  .inl (0, 8, [[], [.inl ((.negSucc 2147483647, .ofNat 2147483647), none)]]),
  .inr (5, [.inr (.inr (.inr (.inr 100))), .inr (.inr (.inr (.inr 100))), .inl ((.negSucc 2147483647, .ofNat 2147483647), none), .inl ((.negSucc 2147483647, .ofNat 2147483647), none), .inl ((.negSucc 2147483647, .ofNat 2147483647), none), .inl ((.negSucc 2147483647, .ofNat 2147483647), none)]),
  .inl (0, 8, [[], [.inl ((.negSucc 2147483647, .ofNat 2147483647), none)]]),
  .inl (0, 8, [[], [.inl ((.negSucc 2147483647, .ofNat 2147483647), none)]]),
  .inr (8, [.inr (.inr (.inl 95)), .inl ((.ofNat 1, .ofNat 8), none), .inl ((.ofNat 0, .ofNat 9), none), .inl ((.ofNat 0, .ofNat 8), none), .inr (.inr (.inl 96)), .inr (.inr (.inl 97)), .inr (.inr (.inl 98)), .inr (.inr (.inl 99)), .inl ((.ofNat 0, .ofNat 80), none), .inr (.inr (.inl 100)), .inl ((.ofNat 0, .ofNat 8), none), .inl ((.ofNat 0, .ofNat 0), none), .inr (.inr (.inr (.inr 100))), .inl ((.ofNat 0, .ofNat 80), none), .inl ((.ofNat 0, .ofNat 76), none), .inl ((.ofNat 0, .ofNat 76), none), .inl ((.negSucc 0, .ofNat 80), none), .inr (.inr (.inl 101)), .inr (.inr (.inl 102)), .inr (.inr (.inl 103)), .inl ((.ofNat 0, .ofNat 40), none), .inl ((.ofNat 0, .ofNat 0), none), .inr (.inr (.inl 104)), .inr (.inr (.inl 105)), .inl ((.ofNat 0, .ofNat 12), none), .inr (.inr (.inl 106)), .inr (.inr (.inl 107)), .inl ((.ofNat 0, .ofNat 255), none), .inl ((.ofNat 0, .ofNat 255), none), .inr (.inr (.inl 108)), .inr (.inr (.inl 109)), .inr (.inr (.inl 110)), .inr (.inr (.inl 111)), .inr (.inr (.inl 112)), .inr (.inr (.inl 113)), .inr (.inr (.inl 114)), .inr (.inr (.inl 115)), .inr (.inr (.inl 116)), .inr (.inr (.inl 117)), .inl ((.negSucc 2147483647, .ofNat 2147483647), none), .inr (.inr (.inl 118)), .inr (.inr (.inl 119)), .inr (.inr (.inl 120)), .inr (.inr (.inl 121)), .inl ((.negSucc 2147483647, .ofNat 2147483647), none), .inl ((.ofNat 0, .ofNat 12), none), .inl ((.negSucc 2147483647, .ofNat 2147483647), none), .inl ((.negSucc 2147483647, .ofNat 2147483647), none), .inr (.inr (.inl 122)), .inr (.inr (.inl 123)), .inr (.inr (.inl 124))]),
  .inl (0, 27, [[.inl ((.negSucc 0, .ofNat 7), none), .inl ((.negSucc 0, .ofNat 7), none), .inl ((.negSucc 0, .ofNat 7), none), .inl ((.negSucc 0, .ofNat 7), none), .inl ((.negSucc 0, .ofNat 7), none), .inl ((.negSucc 0, .ofNat 7), none), .inl ((.negSucc 0, .ofNat 7), none), .inl ((.negSucc 0, .ofNat 7), none), .inl ((.negSucc 2147483647, .ofNat 2147483647), none), .inl ((.negSucc 2147483647, .ofNat 2147483647), none), .inl ((.negSucc 2147483647, .ofNat 2147483647), none), .inl ((.negSucc 2147483647, .ofNat 2147483647), none), .inl ((.negSucc 2147483647, .ofNat 2147483647), none), .inl ((.negSucc 2147483647, .ofNat 2147483647), none), .inl ((.negSucc 2147483647, .ofNat 2147483647), none), .inl ((.negSucc 2147483647, .ofNat 2147483647), none)], [.inl ((.ofNat 0, .ofNat 1), none), .inl ((.ofNat 0, .ofNat 1), none), .inl ((.ofNat 0, .ofNat 1), none), .inl ((.ofNat 0, .ofNat 1), none), .inl ((.ofNat 0, .ofNat 1), none), .inl ((.ofNat 0, .ofNat 1), none), .inl ((.ofNat 0, .ofNat 1), none), .inl ((.ofNat 0, .ofNat 1), none), .inl ((.negSucc 2147483647, .ofNat 2147483647), none), .inl ((.negSucc 2147483647, .ofNat 2147483647), none), .inl ((.negSucc 2147483647, .ofNat 2147483647), none), .inl ((.ofNat 0, .ofNat 0), none), .inl ((.ofNat 0, .ofNat 0), none), .inl ((.ofNat 0, .ofNat 0), none), .inl ((.ofNat 0, .ofNat 0), none), .inl ((.ofNat 0, .ofNat 0), none)]])]
noncomputable def zur6 : List zC := [.inl (0, 8, [[], [.inl ((.negSucc 999, .ofNat 1000), none)]]),
  .inl (0, 8, [[], [.inl ((.negSucc 999, .ofNat 1000), none)]]),
  .inl (0, 8, [[], [.inl ((.negSucc 2147483647, .ofNat 2147483647), none)]]),
  .inl (3, 80, [[.inl ((.negSucc 127, .ofNat 127), none), .inl ((.negSucc 127, .ofNat 127), none), .inl ((.negSucc 127, .ofNat 127), none), .inl ((.negSucc 127, .ofNat 127), none), .inl ((.negSucc 127, .ofNat 127), none), .inl ((.negSucc 127, .ofNat 127), none), .inl ((.negSucc 127, .ofNat 127), none), .inl ((.negSucc 127, .ofNat 127), none), .inl ((.negSucc 127, .ofNat 127), none), .inl ((.negSucc 127, .ofNat 127), none), .inl ((.negSucc 127, .ofNat 127), none), .inl ((.negSucc 127, .ofNat 127), none), .inl ((.negSucc 127, .ofNat 127), none), .inl ((.negSucc 127, .ofNat 127), none), .inl ((.negSucc 127, .ofNat 127), none), .inl ((.negSucc 127, .ofNat 127), none)], [.inl ((.negSucc 127, .ofNat 127), none), .inl ((.negSucc 127, .ofNat 127), none), .inl ((.negSucc 127, .ofNat 127), none), .inl ((.negSucc 127, .ofNat 127), none), .inl ((.negSucc 127, .ofNat 127), none), .inl ((.negSucc 127, .ofNat 127), none), .inl ((.negSucc 127, .ofNat 127), none), .inl ((.negSucc 127, .ofNat 127), none), .inl ((.negSucc 127, .ofNat 127), none), .inl ((.negSucc 127, .ofNat 127), none), .inl ((.negSucc 127, .ofNat 127), none), .inl ((.negSucc 127, .ofNat 127), none), .inl ((.negSucc 127, .ofNat 127), none), .inl ((.negSucc 127, .ofNat 127), none), .inl ((.negSucc 127, .ofNat 127), none), .inl ((.negSucc 127, .ofNat 127), none)], [.inl ((.negSucc 127, .ofNat 127), none), .inl ((.negSucc 127, .ofNat 127), none), .inl ((.negSucc 127, .ofNat 127), none), .inl ((.negSucc 127, .ofNat 127), none), .inl ((.negSucc 127, .ofNat 127), none), .inl ((.negSucc 127, .ofNat 127), none), .inl ((.negSucc 127, .ofNat 127), none), .inl ((.negSucc 127, .ofNat 127), none), .inl ((.negSucc 127, .ofNat 127), none), .inl ((.negSucc 127, .ofNat 127), none), .inl ((.negSucc 127, .ofNat 127), none), .inl ((.negSucc 127, .ofNat 127), none), .inl ((.negSucc 127, .ofNat 127), none), .inl ((.negSucc 127, .ofNat 127), none), .inl ((.negSucc 127, .ofNat 127), none), .inl ((.negSucc 127, .ofNat 127), none)], [.inl ((.negSucc 127, .ofNat 127), none), .inl ((.negSucc 127, .ofNat 127), none), .inl ((.negSucc 127, .ofNat 127), none), .inl ((.negSucc 127, .ofNat 127), none), .inl ((.negSucc 127, .ofNat 127), none), .inl ((.negSucc 127, .ofNat 127), none), .inl ((.negSucc 127, .ofNat 127), none), .inl ((.negSucc 127, .ofNat 127), none), .inl ((.negSucc 127, .ofNat 127), none), .inl ((.negSucc 127, .ofNat 127), none), .inl ((.negSucc 127, .ofNat 127), none), .inl ((.negSucc 127, .ofNat 127), none), .inl ((.negSucc 127, .ofNat 127), none), .inl ((.negSucc 127, .ofNat 127), none), .inl ((.negSucc 127, .ofNat 127), none), .inl ((.negSucc 127, .ofNat 127), none)], [.inl ((.negSucc 127, .ofNat 127), none), .inl ((.negSucc 127, .ofNat 127), none), .inl ((.negSucc 127, .ofNat 127), none), .inl ((.negSucc 127, .ofNat 127), none), .inl ((.negSucc 127, .ofNat 127), none), .inl ((.negSucc 127, .ofNat 127), none), .inl ((.negSucc 127, .ofNat 127), none), .inl ((.negSucc 127, .ofNat 127), none), .inl ((.negSucc 127, .ofNat 127), none), .inl ((.negSucc 127, .ofNat 127), none), .inl ((.negSucc 127, .ofNat 127), none), .inl ((.negSucc 127, .ofNat 127), none), .inl ((.negSucc 127, .ofNat 127), none), .inl ((.negSucc 127, .ofNat 127), none), .inl ((.negSucc 127, .ofNat 127), none), .inl ((.negSucc 127, .ofNat 127), none)], [.inl ((.ofNat 0, .ofNat 0), none), .inl ((.ofNat 0, .ofNat 0), none), .inl ((.ofNat 0, .ofNat 0), none), .inl ((.ofNat 0, .ofNat 0), none), .inl ((.ofNat 0, .ofNat 0), none), .inl ((.ofNat 0, .ofNat 0), none), .inl ((.ofNat 0, .ofNat 0), none), .inl ((.ofNat 0, .ofNat 0), none), .inl ((.ofNat 0, .ofNat 0), none), .inl ((.ofNat 0, .ofNat 0), none), .inl ((.ofNat 0, .ofNat 0), none), .inl ((.ofNat 0, .ofNat 0), none), .inl ((.ofNat 0, .ofNat 0), none), .inl ((.ofNat 0, .ofNat 0), none), .inl ((.ofNat 0, .ofNat 0), none), .inl ((.ofNat 0, .ofNat 0), none)]]),
  .inl (1, 16, [[], [.inr (.inl (.negSucc 9223372036854775807, .ofNat 9223372036854775807))]]),
  .inl (0, 24, [[.inl ((.negSucc 999, .ofNat 1000), none), .inl ((.negSucc 999, .ofNat 1000), none), .inl ((.negSucc 2147483647, .ofNat 2147483647), none), .inl ((.negSucc 999, .ofNat 1000), none), .inl ((.negSucc 999, .ofNat 1000), none), .inl ((.negSucc 2147483647, .ofNat 2147483647), none), .inl ((.negSucc 999, .ofNat 1000), none), .inl ((.negSucc 999, .ofNat 1000), none), .inl ((.negSucc 2147483647, .ofNat 2147483647), none), .inl ((.negSucc 999, .ofNat 1000), none), .inl ((.negSucc 999, .ofNat 1000), none), .inl ((.negSucc 2147483647, .ofNat 2147483647), none), .inl ((.negSucc 999, .ofNat 1000), none), .inl ((.negSucc 999, .ofNat 1000), none), .inl ((.negSucc 2147483647, .ofNat 2147483647), none), .inl ((.negSucc 999, .ofNat 1000), none)], [.inl ((.negSucc 999, .ofNat 1000), none), .inl ((.negSucc 2147483647, .ofNat 2147483647), none), .inl ((.negSucc 999, .ofNat 1000), none), .inl ((.negSucc 999, .ofNat 1000), none), .inl ((.negSucc 2147483647, .ofNat 2147483647), none), .inl ((.negSucc 999, .ofNat 1000), none), .inl ((.negSucc 999, .ofNat 1000), none), .inl ((.negSucc 2147483647, .ofNat 2147483647), none), .inl ((.ofNat 0, .ofNat 0), none), .inl ((.ofNat 0, .ofNat 0), none), .inl ((.ofNat 0, .ofNat 0), none), .inl ((.ofNat 0, .ofNat 0), none), .inl ((.ofNat 0, .ofNat 0), none), .inl ((.ofNat 0, .ofNat 0), none), .inl ((.ofNat 0, .ofNat 0), none), .inl ((.ofNat 0, .ofNat 0), none)]]),
  .inl (3, 40, [[], [.inl ((.negSucc 127, .ofNat 127), none)]]),
  .inl (3, 40, [[], [.inl ((.negSucc 127, .ofNat 127), none)]]),
  .inl (0, 7, [[], [.inl ((.negSucc 2147483647, .ofNat 2147483647), none)]]),
  .inl (0, 324, [[], [.inl ((.negSucc 2147483647, .ofNat 2147483647), none)]]),
  .inl (0, 27, [[.inl ((.negSucc 0, .ofNat 7), none), .inl ((.negSucc 0, .ofNat 7), none), .inl ((.negSucc 0, .ofNat 7), none), .inl ((.negSucc 0, .ofNat 7), none), .inl ((.negSucc 0, .ofNat 7), none), .inl ((.negSucc 0, .ofNat 7), none), .inl ((.negSucc 0, .ofNat 7), none), .inl ((.negSucc 0, .ofNat 7), none), .inl ((.negSucc 2147483647, .ofNat 2147483647), none), .inl ((.negSucc 2147483647, .ofNat 2147483647), none), .inl ((.negSucc 2147483647, .ofNat 2147483647), none), .inl ((.negSucc 2147483647, .ofNat 2147483647), none), .inl ((.negSucc 2147483647, .ofNat 2147483647), none), .inl ((.negSucc 2147483647, .ofNat 2147483647), none), .inl ((.negSucc 2147483647, .ofNat 2147483647), none), .inl ((.negSucc 2147483647, .ofNat 2147483647), none)], [.inl ((.ofNat 0, .ofNat 1), none), .inl ((.ofNat 0, .ofNat 1), none), .inl ((.ofNat 0, .ofNat 1), none), .inl ((.ofNat 0, .ofNat 1), none), .inl ((.ofNat 0, .ofNat 1), none), .inl ((.ofNat 0, .ofNat 1), none), .inl ((.ofNat 0, .ofNat 1), none), .inl ((.ofNat 0, .ofNat 1), none), .inl ((.negSucc 2147483647, .ofNat 2147483647), none), .inl ((.negSucc 2147483647, .ofNat 2147483647), none), .inl ((.negSucc 2147483647, .ofNat 2147483647), none), .inl ((.ofNat 0, .ofNat 0), none), .inl ((.ofNat 0, .ofNat 0), none), .inl ((.ofNat 0, .ofNat 0), none), .inl ((.ofNat 0, .ofNat 0), none), .inl ((.ofNat 0, .ofNat 0), none)]]),
  .inl (0, 27, [[.inl ((.negSucc 0, .ofNat 7), none), .inl ((.negSucc 0, .ofNat 7), none), .inl ((.negSucc 0, .ofNat 7), none), .inl ((.negSucc 0, .ofNat 7), none), .inl ((.negSucc 0, .ofNat 7), none), .inl ((.negSucc 0, .ofNat 7), none), .inl ((.negSucc 0, .ofNat 7), none), .inl ((.negSucc 0, .ofNat 7), none), .inl ((.negSucc 2147483647, .ofNat 2147483647), none), .inl ((.negSucc 2147483647, .ofNat 2147483647), none), .inl ((.negSucc 2147483647, .ofNat 2147483647), none), .inl ((.negSucc 2147483647, .ofNat 2147483647), none), .inl ((.negSucc 2147483647, .ofNat 2147483647), none), .inl ((.negSucc 2147483647, .ofNat 2147483647), none), .inl ((.negSucc 2147483647, .ofNat 2147483647), none), .inl ((.negSucc 2147483647, .ofNat 2147483647), none)], [.inl ((.ofNat 0, .ofNat 1), none), .inl ((.ofNat 0, .ofNat 1), none), .inl ((.ofNat 0, .ofNat 1), none), .inl ((.ofNat 0, .ofNat 1), none), .inl ((.ofNat 0, .ofNat 1), none), .inl ((.ofNat 0, .ofNat 1), none), .inl ((.ofNat 0, .ofNat 1), none), .inl ((.ofNat 0, .ofNat 1), none), .inl ((.negSucc 2147483647, .ofNat 2147483647), none), .inl ((.negSucc 2147483647, .ofNat 2147483647), none), .inl ((.negSucc 2147483647, .ofNat 2147483647), none), .inl ((.ofNat 0, .ofNat 0), none), .inl ((.ofNat 0, .ofNat 0), none), .inl ((.ofNat 0, .ofNat 0), none), .inl ((.ofNat 0, .ofNat 0), none), .inl ((.ofNat 0, .ofNat 0), none)]]),
  .inl (0, 8, [[], [.inl ((.negSucc 2147483647, .ofNat 2147483647), none)]]),
  .inl (0, 8, [[], [.inl ((.negSucc 2147483647, .ofNat 2147483647), none)]]),
  .inl (0, 240, [[], [.inl ((.negSucc 175, .ofNat 120), none)]]),
  .inl (0, 8, [[], [.inl ((.ofNat 0, .ofNat 255), none)]])]
noncomputable def zur7 : List zC := [.inl (0, 8, [[], [.inl ((.ofNat 0, .ofNat 255), none)]]),
  .inl (0, 8, [[], [.inl ((.ofNat 0, .ofNat 255), none)]]),
  .inl (0, 8, [[], [.inl ((.ofNat 0, .ofNat 255), none)]]),
  .inl (0, 64, [[], [.inl ((.ofNat 0, .ofNat 999), none)]]),
  .inl (0, 2304, [[], [.inl ((.negSucc 2147483647, .ofNat 1000000000), none)]]),
  .inl (0, 2304, [[], [.inl ((.negSucc 2147483647, .ofNat 2147483647), none)]]),
  .inl (0, 8, [[.inl ((.ofNat 0, .ofNat 7), none), .inl ((.ofNat 0, .ofNat 7), none), .inl ((.ofNat 0, .ofNat 7), none), .inl ((.ofNat 0, .ofNat 7), none), .inl ((.ofNat 0, .ofNat 7), none), .inl ((.ofNat 0, .ofNat 7), none), .inl ((.ofNat 0, .ofNat 7), none), .inl ((.ofNat 0, .ofNat 7), none), .inl ((.ofNat 0, .ofNat 0), none), .inl ((.ofNat 0, .ofNat 0), none), .inl ((.ofNat 0, .ofNat 0), none), .inl ((.ofNat 0, .ofNat 0), none), .inl ((.ofNat 0, .ofNat 0), none), .inl ((.ofNat 0, .ofNat 0), none), .inl ((.ofNat 0, .ofNat 0), none), .inl ((.ofNat 0, .ofNat 0), none)]]),
  .inl (2, 256, [[], [.inl ((.ofNat 0, .ofNat 1), none)]]),
  .inl (0, 12, [[], [.inl ((.ofNat 0, .ofNat 7), none)]]),
  .inl (0, 12, [[], [.inl ((.ofNat 0, .ofNat 7), none)]]),
  .inl (0, 54, [[], [.inl ((.negSucc 2147483647, .ofNat 2147483647), none)]]),
  .inl (2, 2, [[], [.inl ((.ofNat 0, .ofNat 1), none)]]),
  .inl (0, 2, [[], [.inl ((.negSucc 2147483647, .ofNat 2147483647), none)]]),
  .inl (1, 1, [[], [.inr (.inl (.negSucc 9223372036854775807, .ofNat 9223372036854775807))]]),
  .inr (99, []),
  .inr (99, [])]
noncomputable def zuw : zR zC := [zur0, zur1, zur2, zur3, zur4, zur5, zur6, zur7]
noncomputable def zuW (mk : Nat) : zH := (126, zuw, mk)
noncomputable def zufs : List zAV := [.inr (.inr (.inl 95)), .inl ((.ofNat 1, .ofNat 8), none), .inl ((.ofNat 0, .ofNat 9), none), .inl ((.ofNat 0, .ofNat 8), none), .inr (.inr (.inl 96)), .inr (.inr (.inl 97)), .inr (.inr (.inl 98)), .inr (.inr (.inl 99)), .inl ((.ofNat 0, .ofNat 80), none), .inr (.inr (.inl 100)), .inl ((.ofNat 0, .ofNat 8), none), .inl ((.ofNat 0, .ofNat 0), none), .inr (.inr (.inr (.inr 100))), .inl ((.ofNat 0, .ofNat 80), none), .inl ((.ofNat 0, .ofNat 76), none), .inl ((.ofNat 0, .ofNat 76), none), .inl ((.negSucc 0, .ofNat 80), none), .inr (.inr (.inl 101)), .inr (.inr (.inl 102)), .inr (.inr (.inl 103)), .inl ((.ofNat 0, .ofNat 40), none), .inl ((.ofNat 0, .ofNat 0), none), .inr (.inr (.inl 104)), .inr (.inr (.inl 105)), .inl ((.ofNat 0, .ofNat 12), none), .inr (.inr (.inl 106)), .inr (.inr (.inl 107)), .inl ((.ofNat 0, .ofNat 255), none), .inl ((.ofNat 0, .ofNat 255), none), .inr (.inr (.inl 108)), .inr (.inr (.inl 109)), .inr (.inr (.inl 110)), .inr (.inr (.inl 111)), .inr (.inr (.inl 112)), .inr (.inr (.inl 113)), .inr (.inr (.inl 114)), .inr (.inr (.inl 115)), .inr (.inr (.inl 116)), .inr (.inr (.inl 117)), .inl ((.negSucc 2147483647, .ofNat 2147483647), none), .inr (.inr (.inl 118)), .inr (.inr (.inl 119)), .inr (.inr (.inl 120)), .inr (.inr (.inl 121)), .inl ((.negSucc 2147483647, .ofNat 2147483647), none), .inl ((.ofNat 0, .ofNat 12), none), .inl ((.negSucc 2147483647, .ofNat 2147483647), none), .inl ((.negSucc 2147483647, .ofNat 2147483647), none), .inr (.inr (.inl 122)), .inr (.inr (.inl 123)), .inr (.inr (.inl 124))]
theorem zu_ob : zrget zuw 94 = some (.inr (8, zufs)) := rfl
theorem zu_most : zrget zuw 96 = some (.inl (0, 8, [[], [.inl ((.negSucc 999, .ofNat 1000), none)]])) := rfl
theorem zu_width : zrget zuw 97 = some (.inl (0, 8, [[], [.inl ((.negSucc 999, .ofNat 1000), none)]])) := rfl
theorem zu_rode : zrget zuw 108 = some (.inl (0, 8, [[], [.inl ((.negSucc 2147483647, .ofNat 2147483647), none)]])) := rfl
theorem zu_may : zrget zuw 111 = some (.inl (0, 8, [[], [.inl ((.ofNat 0, .ofNat 255), none)]])) := rfl
theorem zu_must : zrget zuw 112 = some (.inl (0, 8, [[], [.inl ((.ofNat 0, .ofNat 255), none)]])) := rfl
theorem zu_least : zrget zuw 116 = some (.inl (0, 2304, [[], [.inl ((.negSucc 2147483647, .ofNat 1000000000), none)]])) := rfl
theorem zu_line : zrget zuw 118 = some (.inl (0, 8, [[.inl ((.ofNat 0, .ofNat 7), none), .inl ((.ofNat 0, .ofNat 7), none), .inl ((.ofNat 0, .ofNat 7), none), .inl ((.ofNat 0, .ofNat 7), none), .inl ((.ofNat 0, .ofNat 7), none), .inl ((.ofNat 0, .ofNat 7), none), .inl ((.ofNat 0, .ofNat 7), none), .inl ((.ofNat 0, .ofNat 7), none), .inl ((.ofNat 0, .ofNat 0), none), .inl ((.ofNat 0, .ofNat 0), none), .inl ((.ofNat 0, .ofNat 0), none), .inl ((.ofNat 0, .ofNat 0), none), .inl ((.ofNat 0, .ofNat 0), none), .inl ((.ofNat 0, .ofNat 0), none), .inl ((.ofNat 0, .ofNat 0), none), .inl ((.ofNat 0, .ofNat 0), none)]])) := rfl
/-- the reference's object and its rows of ints -/
def zOb (ws : va_W) (aM : Nat) (N M : Int32) (aMost aWidth aRode aMay aMust aLeast aLine : Nat) : Prop := ∃ vs, ws[94]? = some (aM, .inr (8, vs)) ∧ vs[1]? = some (.int N) ∧ vs[3]? = some (.int M) ∧ vs[4]? = some (.ref aMost) ∧ vs[5]? = some (.ref aWidth) ∧ vs[29]? = some (.ref aRode) ∧ vs[32]? = some (.ref aMay) ∧ vs[33]? = some (.ref aMust) ∧ vs[37]? = some (.ref aLeast) ∧ vs[40]? = some (.ref aLine)
theorem zOb_cg {d : Nat} {ws ws' : va_W} {aM : Nat} {N M : Int32} {aMost aWidth aRode aMay aMust aLeast aLine : Nat} (h : zcg d ws ws') (hb : ∀ j, j < 51 → zbit d 94 j = false) (hO : zOb ws aM N M aMost aWidth aRode aMay aMust aLeast aLine) : zOb ws' aM N M aMost aWidth aRode aMay aMust aLeast aLine := by
  obtain ⟨vs, h0, h1⟩ := hO
  obtain ⟨e', h2, h3⟩ := h 94 aM _ h0
  obtain ⟨vs', rfl, h4, h5⟩ := h3
  refine ⟨vs', h2, ?_⟩
  rw [h5 1 (hb 1 (by decide)), h5 3 (hb 3 (by decide)), h5 4 (hb 4 (by decide)), h5 5 (hb 5 (by decide)), h5 29 (hb 29 (by decide)), h5 32 (hb 32 (by decide)), h5 33 (hb 33 (by decide)), h5 37 (hb 37 (by decide)), h5 40 (hb 40 (by decide))]
  exact h1
section ZUW
variable {p : Program} {l : Launch} {e : Env} {R : Room} {s : State} {m : MethodId} {args : Array Value} {below : List Frame} {meth : Method} {c0 : Code} {Q : State → Prop} {D : va_G} {tys : List (ClassId × FieldType)} {o : zO} {z : Nat}
theorem zOb_of {mk : Nat} {ws : va_W} (w : zwr vwCl tys o (zuW mk) ws) : ∃ aM N M aMost aWidth aRode aMay aMust aLeast aLine, zOb ws aM N M aMost aWidth aRode aMay aMust aLeast aLine ∧ zad ws 94 = some aM ∧ zmi (.ofNat 1, .ofNat 8) N ∧ zmi (.ofNat 0, .ofNat 8) M ∧ zad ws 96 = some aMost ∧ zad ws 97 = some aWidth ∧ zad ws 108 = some aRode ∧ zad ws 111 = some aMay ∧ zad ws 112 = some aMust ∧ zad ws 116 = some aLeast ∧ zad ws 118 = some aLine := by
  obtain ⟨c, a, e0, h1, h2, h3⟩ := w.2 94 (show 94 < 126 by decide)
  have h1 : zrget zuw 94 = some c := h1
  rw [zu_ob] at h1
  cases h1
  obtain ⟨vs, rfl, hvs⟩ := h3
  obtain ⟨v1, w1, y1⟩ := zr2_get 1 hvs (a := .inl ((.ofNat 1, .ofNat 8), none)) rfl
  obtain ⟨v2, w2, y2⟩ := zr2_get 3 hvs (a := .inl ((.ofNat 0, .ofNat 8), none)) rfl
  obtain ⟨N, rfl, hN⟩ := y1
  obtain ⟨M, rfl, hM⟩ := y2
  obtain ⟨u0, x0, ⟨a0, z0, rfl⟩⟩ := zr2_get 4 hvs (a := .inr (.inr (.inl 96))) rfl
  obtain ⟨u1, x1, ⟨a1, z1, rfl⟩⟩ := zr2_get 5 hvs (a := .inr (.inr (.inl 97))) rfl
  obtain ⟨u2, x2, ⟨a2, z2, rfl⟩⟩ := zr2_get 29 hvs (a := .inr (.inr (.inl 108))) rfl
  obtain ⟨u3, x3, ⟨a3, z3, rfl⟩⟩ := zr2_get 32 hvs (a := .inr (.inr (.inl 111))) rfl
  obtain ⟨u4, x4, ⟨a4, z4, rfl⟩⟩ := zr2_get 33 hvs (a := .inr (.inr (.inl 112))) rfl
  obtain ⟨u5, x5, ⟨a5, z5, rfl⟩⟩ := zr2_get 37 hvs (a := .inr (.inr (.inl 116))) rfl
  obtain ⟨u6, x6, ⟨a6, z6, rfl⟩⟩ := zr2_get 40 hvs (a := .inr (.inr (.inl 118))) rfl
  exact ⟨a, N, M, a0, a1, a2, a3, a4, a5, a6, ⟨vs, h2, w1, w2, x0, x1, x2, x3, x4, x5, x6⟩, zad_of h2, hN, hM, z0, z1, z2, z3, z4, z5, z6⟩
/-- how many hours -/
def zpc (n : Nat) : Nat := n % 2 + (n / 2 % 2 + (n / 4 % 2 + (n / 8 % 2 + (n / 16 % 2 + (n / 32 % 2 + (n / 64 % 2 + n / 128 % 2))))))
noncomputable def zutB (k : Nat) : Bool := zrunw zprog2 (zovW []) 1000 zcut0 5 1000 k2J6_bitCount_0f7a4 (zkin (some (.inl ((.ofNat (zpc k), .ofNat (zpc k)), none))) (zuW 0)) 0 (zargs 0 [.inl ((.ofNat k, .ofNat k), none)], [], (126, zuw, 0), 0, 0)
set_option maxRecDepth 100000 in
theorem zutB_ok : zfor zutB 256 = true := by decide +kernel
noncomputable def zutH (x h : Nat) : Bool := zrunw zprog2 (zovW []) 1000 zcut0 5 1000 kX8_has (zkin (some (.inl ((.ofNat (x / 2 ^ h % 2), .ofNat (x / 2 ^ h % 2)), none))) (zuW 0)) 0 (zargs 0 [.inl ((.ofNat x, .ofNat x), none), .inl ((.ofNat h, .ofNat h), none)], [], (126, zuw, 0), 0, 0)
set_option maxRecDepth 100000 in
theorem zutH_ok : zfor (fun x => zfor (zutH x) 8) 256 = true := by decide +kernel
theorem zex1 {k : Nat} {x : Int32} (hx : x.toInt = (k : Int)) {ad : Nat → Option Nat} : zgH o ad (.inl ((.ofNat k, .ofNat k), none)) (.int x) := ⟨x, rfl, by show (k : Int) ≤ x.toInt; omega, by show x.toInt ≤ (k : Int); omega⟩
theorem zex2 {k : Nat} {v : Value} {ad : Nat → Option Nat} (h : zgH o ad (.inl ((.ofNat k, .ofNat k), none)) v) : ∃ x : Int32, v = .int x ∧ x.toInt = (k : Int) := by
  obtain ⟨x, rfl, h1, h2⟩ := h
  have h1 : (k : Int) ≤ x.toInt := h1
  have h2 : x.toInt ≤ (k : Int) := h2
  exact ⟨x, rfl, by omega⟩
theorem zu_bc (E : zEnv tys) {ws : va_W} {k : Nat} (hk : k < 256) {x : Int32} (hx : x.toInt = (k : Int)) : zMetV l D vwCl tys o z (zXX o z) zTs m2J6_bitCount_0f7a4 5 1000 (zuW 0) (zuW 0) ws [.int x] (fun v _ => ∃ y : Int32, v = .int y ∧ y.toInt = (zpc k : Int)) := by
  have hr := zfor_ok zutB_ok k hk
  unfold zutB at hr
  have hM : zMet l D vwCl tys o z (zXX o z) zTs m2J6_bitCount_0f7a4 5 1000 (zuW 0) [.inl ((.ofNat k, .ofNat k), none)] (zkin (some (.inl ((.ofNat (zpc k), .ofNat (zpc k)), none))) (zuW 0)) := zMet_run (fun g => zovW_ok (fun d h => absurd h List.not_mem_nil)) zXX_ok (fun g => zprog2_ok (o := zwith o g) E) (show zget zprog2 14 = some m2J6_bitCount_0f7a4 from rfl) (by decide) (by decide) (show 1 ≤ 1 by decide) (show 1 ≤ 700 by decide) hr
  exact zMetV_mono (zMetV_zMet hM ⟨zex1 hx, trivial⟩) (fun v ws' _ h => zex2 h)
theorem zu_has (E : zEnv tys) {ws : va_W} {k h : Nat} (hk : k < 256) (hh : h < 8) {x y : Int32} (hx : x.toInt = (k : Int)) (hy : y.toInt = (h : Int)) : zMetV l D vwCl tys o z (zXX o z) zTs mX8_has 5 1000 (zuW 0) (zuW 0) ws [.int x, .int y] (fun v _ => ∃ u : Int32, v = .int u ∧ u.toInt = ((k / 2 ^ h % 2 : Nat) : Int)) := by
  have hr := zfor_ok (zfor_ok zutH_ok k hk) h hh
  unfold zutH at hr
  have hM : zMet l D vwCl tys o z (zXX o z) zTs mX8_has 5 1000 (zuW 0) [.inl ((.ofNat k, .ofNat k), none), .inl ((.ofNat h, .ofNat h), none)] (zkin (some (.inl ((.ofNat (k / 2 ^ h % 2), .ofNat (k / 2 ^ h % 2)), none))) (zuW 0)) := zMet_run (fun g => zovW_ok (fun d h => absurd h List.not_mem_nil)) zXX_ok (fun g => zprog2_ok (o := zwith o g) E) (show zget zprog2 227 = some mX8_has from rfl) (by decide) (by decide) (show 2 ≤ 2 by decide) (show 2 ≤ 700 by decide) hr
  exact zMetV_mono (zMetV_zMet hM ⟨zex1 hx, zex1 hy, trivial⟩) (fun v ws' _ h => zex2 h)
end ZUW
