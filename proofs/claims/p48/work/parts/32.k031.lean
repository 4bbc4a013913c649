def zym45 : Nat := 10177897599385967196342957558113347672364067358112872923899962476983667621200708306165076398486286768962780317948271603047157311142409788533069929647439589797619703400855115709502766424765715064660720338091050660428304245062479409762236020857845555756137214830037035705835877249832228138206128893342263575809392190810789292778770292105993749628805768445211225314842486108585241286133729184873135701191911744175385014513554645440806161372523159012035205578927290133134773691563209427732964629160757578302270302673811148003059285877522404624609919168985217014904438953106407912117628343072651391600256303279400485290163013416921767508616005628098428290245848367470308930919643732415669703230416171014019719622347709967975733971583672978452377909480240021689912054610415102882624391253676768752060487499745499901432205484712548423702827879585831255917559087747220882851790196059037131056053188950135330357399590743125628334879115161498637269271879304932475107331110340049565653278556357505149402641071709484470334262969797764751675962495228696618253653317559019876495870758713359611716514628242020354631356807585520703156806765677662569494293250488525061195460485918612066938093412176266672146051996299935675739434377184242757407956420234615753960866204525022886566555708701792018758621038528623339523414528622929892813052902907509883715925061559659604865258469151016808023432981771051010469025859962509163421214494002884073806076457227127270761509837760644860267210568351965429218745349553108919932727450718522843663052046336
noncomputable def zyh774 : zH := (126, [zyr0, zyr1, zyr2, zyr3, zyr4, zyr5, zyr6, zyr7], zym45)
noncomputable def zyh775 : zH := (126, [zyr9, zyr10, zyr11, zyr12, zyr13, zyr18, zyr15, zyr16], zym43)
noncomputable def zyc729 : zC := .inr (8, [zyv117, zyv26, zyv27, zyv25, zyv118, zyv119, zyv120, zyv121, zyv17, zyv122, zyv36, zyv128, zyv114, zyv17, zyv123, zyv123, zyv124, zyv125, zyv126, zyv127, zyv35, zyv128, zyv129, zyv130, zyv13, zyv131, zyv132, zyv18, zyv18, zyv133, zyv134, zyv135, zyv136, zyv137, zyv138, zyv139, zyv140, zyv141, zyv142, zyv143, zyv144, zyv145, zyv146, zyv147, zyv15, zyv13, zyv15, zyv15, zyv148, zyv149, zyv150])
noncomputable def zyr655 : List zC := [zyc60, zyc60, zyc60, zyc69, zyc10, zyc10, zyc10, zyc12, zyc70, zyc8, zyc8, zyc70, zyc8, zyc8, zyc729, zyc78]
noncomputable def zyh776 : zH := (126, [zyr9, zyr10, zyr11, zyr12, zyr13, zyr655, zyr309, zyr310], 0)
def zym46 : Nat := 10177897599385967196342957558113347672364067358112872923899962476983667621200708306165076398486286768962780317948271603047157311142409788533069929647439589797619703400855115709502766424765715064660720338091050660428304245062479409762236020857845555756137214830037035705835877249832228138206128893342263575809392190810789292778770292105993749628805768445211225314842486108585241286133729184873135701191911744175385014513554645440806161372523159012035205578927290133134773691563209427732964629160757578302270302673811148003059285877522404624609919168985217014904438953106407912117628343072651391600256303279400485290163013416921767508616005628098428290245848367470308930919643732415669703230416171014019719622347709967975733971583672978452377909480240021689912054610415102882624391253676768752060487499745499901432205484712548423702827879585831255917559087747220882851790196059037131056053188950135330357399590743125628334879115161498637269271879304932475107331110340049565653278556357505149402641071709484470334262969797764751675962495228696618253653317559019876495870758713359611716514628242020354631356807585520703156806765677662569494293250488525061195460485918612066938093412176266672146051996299935675739434377184242757407956420234615753960866204525022886566555708701763379854702563567418920739480853784439171073880732254980442266222750495654251713768722393646449334555031391894601433447597740140959543225413657072802600611328183249243660773200305065288074102254844247864901979587301650057649281707757313915182800437248
noncomputable def zyh777 : zH := (126, [zyr0, zyr1, zyr2, zyr3, zyr4, zyr5, zyr6, zyr7], zym46)
def zyv424 : zAV := .inl ((.ofNat 1, .ofNat 255), none)
noncomputable def zyc730 : zC := .inr (4, [zyv87, zyv88, zyv89, zyv90, zyv91, zyv92, zyv93, zyv94, zyv95, zyv96, zyv97, zyv98, zyv99, zyv424, zyv100])
noncomputable def zyr656 : List zC := [zyc730, zyc4, zyc5, zyc35, zyc36, zyc37, zyc38, zyc39, zyc39, zyc40, zyc41, zyc42, zyc43, zyc41, zyc44, zyc45]
noncomputable def zyh778 : zH := (126, [zyr0, zyr1, zyr2, zyr3, zyr656, zyr5, zyr6, zyr7], 0)
def zym47 : Nat := 14002965526155144834555305452685214372866082888911214819410098563166364393430339704954316846760882417420604004588805172709668950479443731801102542528740113036510299444061547747539391052523594629678962987431385091951024344687624116958504831353788456858187662249641364321767348607606502983077596886259472559892509340453479591701669341690610010199752681859969642725277394461284724377187107117253177142493474639946364494226253006015222273057859996893954087112388911638079340740307953400728723420436588952155758688261952181120583722524183166457598150762152371703020012995588938072866897073390632452049784351496937636259712515524623518773707258808280520421766533723982678808205124377338390350147232981694928107493357143336100099345127583310326317513361407701585332291704561598012157109134338690845941606929566579109845648752432227530123144780633008215865200107064955296873959439674874263446726724444594593399440980900885790456007303431910585281124234213951629658205321241942054284455065419268372128178209253142263303100509032020839738717162419633361923319257010022504665335926405622345740884671364959272460376791398153022984421227494300704089333484168581053903671324229299871114933203089732015328195933736811542888636618070746229101551946063862190952517481681820714828448743184805157114555460571190275103234955695251063616575057295286339621140306864204977859618146869750759448354484860806496256
noncomputable def zyh779 : zH := (126, [zyr0, zyr1, zyr2, zyr3, zyr656, zyr5, zyr6, zyr7], zym47)
/-! X7_first -/
noncomputable def zyx653a : List zAV := [.inr (.inr (.inl 0)), .inl ((.negSucc 2147483647, .ofNat 2147483647), none)]
def zyx653r : Option zAV := some (.inl ((.negSucc 1, .ofNat 59), none))
noncomputable def zyx653p : List zPw := [((26, ([(0, .inr (.inr (.inl 0))), (1, .inl ((.ofNat 1, .ofNat 60), some (1, .ofNat 0))), (2, .inl ((.ofNat 0, .ofNat 60), some (2, .ofNat 0)))], [], zyh774, 0, 0), [(2, .negSucc 1)], .ofNat 121), (zyx653r, zyh774), 6, 720)]
noncomputable def zyx653d : zKw := (119, 3, 6, 720, zyx653a, zyh0, [(zyx653r, zyh774)])
noncomputable def zbzyx653c : Bool := zchkX [] zprog2 (zovW [zyx651d, zyx652d]) 100000 k2X7_first [] zyx653p zyx653p
noncomputable def zbzyx653e : Bool := zrunw zprog2 (zovW [zyx651d, zyx652d]) 100000 (zcutW [] none ((zyx653r, zyh774), 6, 720) zyx653p) 6 720 k2X7_first (zkin zyx653r zyh774) 0 (zargs 0 zyx653a, [], (zyh0.1, zyh0.2.1, 0), 0, 0)
/-! X8_first -/
noncomputable def zyx654a : List zAV := [.inr (.inr (.inl 94)), .inl ((.negSucc 2147483647, .ofNat 2147483647), none)]
def zyx654r : Option zAV := some (.inl ((.negSucc 1, .ofNat 59), none))
noncomputable def zyx654p : List zPw := [((31, ([(0, .inr (.inr (.inl 94))), (1, .inl ((.ofNat 1, .ofNat 60), some (1, .ofNat 0))), (2, .inl ((.ofNat 0, .ofNat 60), some (2, .ofNat 0)))], [], zyh775, 0, 0), [(2, .negSucc 1)], .ofNat 121), (zyx654r, zyh775), 170, 20400)]
noncomputable def zyx654d : zKw := (210, 3, 170, 20400, zyx654a, zyh2, [(zyx654r, zyh775)])
noncomputable def zbzyx654c : Bool := zchkX [] zprog2 (zovW [zyx647d, zyx648d]) 100000 k2X8_first [] zyx654p zyx654p
noncomputable def zbzyx654e : Bool := zrunw zprog2 (zovW [zyx647d, zyx648d]) 100000 (zcutW [] none ((zyx654r, zyh775), 170, 20400) zyx654p) 170 20400 k2X8_first (zkin zyx654r zyh775) 0 (zargs 0 zyx654a, [], (zyh2.1, zyh2.2.1, 0), 0, 0)
/-! X0_passAll -/
noncomputable def zyx655a : List zAV := [.inr (.inr (.inl 3)), .inr (.inr (.inl 21)), .inl ((.ofNat 0, .ofNat 60), none)]
def zyx655r : Option zAV := none
noncomputable def zyx655p : List zPw := [((2, ([(0, .inr (.inr (.inl 3))), (1, .inr (.inr (.inl 21))), (2, .inl ((.ofNat 0, .ofNat 60), some (2, .ofNat 0))), (3, .inl ((.ofNat 0, .ofNat 60), some (3, .ofNat 0)))], [], zyh773, 0, 0), [(3, .negSucc 1)], .ofNat 121), (zyx655r, zyh773), 6, 720)]
noncomputable def zyx655d : zKw := (26, 4, 6, 720, zyx655a, zyh0, [(zyx655r, zyh773)])
noncomputable def zbzyx655c : Bool := zchkX [] zprog2 (zovW [zyx651d]) 100000 kX0_passAll [] zyx655p zyx655p
noncomputable def zbzyx655e : Bool := zrunw zprog2 (zovW [zyx651d]) 100000 (zcutW [] none ((zyx655r, zyh773), 6, 720) zyx655p) 6 720 kX0_passAll (zkin zyx655r zyh773) 0 (zargs 0 zyx655a, [], (zyh0.1, zyh0.2.1, 0), 0, 0)
/-! X5_mostTired -/
noncomputable def zyx656a : List zAV := [.inr (.inr (.inl 21))]
def zyx656r : Option zAV := some (.inl ((.ofNat 0, .ofNat 99), none))
noncomputable def zyx656p : List zPw := [((4, ([(0, .inr (.inr (.inl 21))), (1, .inl ((.ofNat 0, .ofNat 99), some (1, .ofNat 0))), (2, .inl ((.ofNat 0, .ofNat 8), some (2, .ofNat 0)))], [], zyh0, 0, 0), [(2, .negSucc 1)], .ofNat 17), (zyx656r, zyh0), 2, 300)]
noncomputable def zyx656d : zKw := (89, 3, 2, 300, zyx656a, zyh0, [(zyx656r, zyh0)])
noncomputable def zbzyx656c : Bool := zchkX [] zprog2 (zovW []) 100000 kX5_mostTired [] zyx656p zyx656p
noncomputable def zbzyx656e : Bool := zrunw zprog2 (zovW []) 100000 (zcutW [] none ((zyx656r, zyh0), 2, 300) zyx656p) 2 300 kX5_mostTired (zkin zyx656r zyh0) 0 (zargs 0 zyx656a, [], (zyh0.1, zyh0.2.1, 0), 0, 0)
/-! X5_tiredOfAll -/
noncomputable def zyx657a : List zAV := [.inr (.inr (.inl 21))]
def zyx657r : Option zAV := some (.inl ((.negSucc 2147483647, .ofNat 2147483647), none))
noncomputable def zyx657p : List zPw := [((4, ([(0, .inr (.inr (.inl 21))), (1, .inl ((.negSucc 2147483647, .ofNat 2147483647), some (1, .ofNat 0))), (2, .inl ((.ofNat 0, .ofNat 8), some (2, .ofNat 0)))], [], zyh0, 0, 0), [(2, .negSucc 1)], .ofNat 17), (zyx657r, zyh0), 2, 300)]
noncomputable def zyx657d : zKw := (90, 3, 2, 300, zyx657a, zyh0, [(zyx657r, zyh0)])
noncomputable def zbzyx657c : Bool := zchkX [] zprog2 (zovW []) 100000 kX5_tiredOfAll [] zyx657p zyx657p
noncomputable def zbzyx657e : Bool := zrunw zprog2 (zovW []) 100000 (zcutW [] none ((zyx657r, zyh0), 2, 300) zyx657p) 2 300 kX5_tiredOfAll (zkin zyx657r zyh0) 0 (zargs 0 zyx657a, [], (zyh0.1, zyh0.2.1, 0), 0, 0)
/-! X7_later -/
noncomputable def zyx658a : List zAV := [.inr (.inr (.inl 0)), .inl ((.negSucc 2147483647, .ofNat 2147483647), none)]
def zyx658r : Option zAV := some (.inl ((.negSucc 2147483647, .ofNat 2147483647), none))
noncomputable def zyx658p : List zPw := []
noncomputable def zyx658d : zKw := (140, 2, 7, 840, zyx658a, zyh0, [(zyx658r, zyh774)])
noncomputable def zbzyx658e : Bool := zrunw zprog2 (zovW [zyx656d, zyx657d, zyx655d]) 100000 (zcutW [] none ((zyx658r, zyh774), 7, 840) zyx658p) 7 840 k2X7_later (zkin zyx658r zyh774) 0 (zargs 0 zyx658a, [], (zyh0.1, zyh0.2.1, 0), 0, 0)
/-! X8_goNights -/
noncomputable def zyx659a : List zAV := [.inr (.inr (.inl 94)), .inr (.inr (.inl 107)), .inl ((.ofNat 0, .ofNat 60), none)]
def zyx659r : Option zAV := none
noncomputable def zyx659p : List zPw := [((2, ([(0, .inr (.inr (.inl 94))), (1, .inr (.inr (.inl 107))), (2, .inl ((.ofNat 0, .ofNat 60), some (2, .ofNat 0))), (3, .inl ((.ofNat 0, .ofNat 60), some (3, .ofNat 0)))], [], zyh768, 0, 0), [(3, .negSucc 1)], .ofNat 121), (zyx659r, zyh768), 170, 20400)]
noncomputable def zyx659d : zKw := (221, 4, 170, 20400, zyx659a, zyh658, [(zyx659r, zyh768)])
noncomputable def zbzyx659c : Bool := zchkX [] zprog2 (zovW [zyx647d]) 100000 kX8_goNights [] zyx659p zyx659p
noncomputable def zbzyx659e : Bool := zrunw zprog2 (zovW [zyx647d]) 100000 (zcutW [] none ((zyx659r, zyh768), 170, 20400) zyx659p) 170 20400 kX8_goNights (zkin zyx659r zyh768) 0 (zargs 0 zyx659a, [], (zyh658.1, zyh658.2.1, 0), 0, 0)
/-! X8_tired -/
noncomputable def zyx660a : List zAV := [.inr (.inr (.inl 94)), .inr (.inr (.inl 107))]
def zyx660r : Option zAV := some (.inl ((.negSucc 2147483647, .ofNat 2147483647), none))
noncomputable def zyx660p : List zPw := [((4, ([(0, .inr (.inr (.inl 94))), (1, .inr (.inr (.inl 107))), (2, .inl ((.negSucc 2147483647, .ofNat 2147483647), some (2, .ofNat 0))), (3, .inl ((.ofNat 0, .ofNat 8), some (3, .ofNat 0)))], [], zyh776, 0, 0), [(3, .negSucc 1)], .ofNat 17), (zyx660r, zyh776), 2, 300)]
noncomputable def zyx660d : zKw := (293, 4, 2, 300, zyx660a, zyh776, [(zyx660r, zyh776)])
noncomputable def zbzyx660c : Bool := zchkX [] zprog2 (zovW []) 100000 kX8_tired [] zyx660p zyx660p
noncomputable def zbzyx660e : Bool := zrunw zprog2 (zovW []) 100000 (zcutW [] none ((zyx660r, zyh776), 2, 300) zyx660p) 2 300 kX8_tired (zkin zyx660r zyh776) 0 (zargs 0 zyx660a, [], (zyh776.1, zyh776.2.1, 0), 0, 0)
/-! X8_later -/
noncomputable def zyx661a : List zAV := [.inr (.inr (.inl 94)), .inl ((.negSucc 2147483647, .ofNat 2147483647), none)]
def zyx661r : Option zAV := some (.inl ((.negSucc 2147483647, .ofNat 2147483647), none))
noncomputable def zyx661p : List zPw := [((42, ([(0, .inr (.inr (.inl 94))), (1, .inl ((.ofNat 0, .ofNat 60), some (1, .ofNat 0))), (2, .inl ((.ofNat 0, .ofNat 2147483647), some (2, .ofNat 0))), (3, .inl ((.ofNat 0, .ofNat 8), some (3, .ofNat 0)))], [], zyh775, 0, 0), [(3, .negSucc 1)], .ofNat 17), (zyx661r, zyh775), 171, 20520)]
noncomputable def zyx661d : zKw := (244, 4, 171, 20520, zyx661a, zyh2, [(zyx661r, zyh775)])
noncomputable def zbzyx661c : Bool := zchkX [] zprog2 (zovW [zyx648d, zyx660d, zyx659d]) 100000 k2X8_later [] zyx661p zyx661p
noncomputable def zbzyx661e : Bool := zrunw zprog2 (zovW [zyx648d, zyx660d, zyx659d]) 100000 (zcutW [] none ((zyx661r, zyh775), 171, 20520) zyx661p) 171 20520 k2X8_later (zkin zyx661r zyh775) 0 (zargs 0 zyx661a, [], (zyh2.1, zyh2.2.1, 0), 0, 0)
/-! X7_vigil -/
noncomputable def zyx662a : List zAV := [.inr (.inr (.inl 0)), .inl ((.negSucc 2147483647, .ofNat 2147483647), none)]
def zyx662r : Option zAV := some (.inl ((.negSucc 0, .ofNat 2147483647), none))
noncomputable def zyx662p : List zPw := [((33, ([(0, .inr (.inr (.inl 0))), (1, .inl ((.ofNat 0, .ofNat 60), some (1, .ofNat 0))), (2, .inl ((.ofNat 0, .ofNat 2147483647), some (2, .ofNat 0))), (3, .inl ((.negSucc 2147483647, .ofNat 59), some (3, .ofNat 0))), (4, .inl ((.negSucc 2147483647, .ofNat 2147483647), some (4, .ofNat 0))), (5, .inl ((.ofNat 0, .ofNat 60), some (5, .ofNat 0)))], [], zyh774, 0, 0), [(5, .negSucc 1)], .ofNat 121), (zyx662r, zyh774), 6, 720)]
noncomputable def zyx662d : zKw := (179, 6, 6, 720, zyx662a, zyh0, [(zyx662r, zyh774)])
noncomputable def zbzyx662c : Bool := zchkX [] zprog2 (zovW [zyx651d]) 100000 k2X7_vigil [] zyx662p zyx662p
noncomputable def zbzyx662e : Bool := zrunw zprog2 (zovW [zyx651d]) 100000 (zcutW [] none ((zyx662r, zyh774), 6, 720) zyx662p) 6 720 k2X7_vigil (zkin zyx662r zyh774) 0 (zargs 0 zyx662a, [], (zyh0.1, zyh0.2.1, 0), 0, 0)
/-! X8_vigil -/
noncomputable def zyx663a : List zAV := [.inr (.inr (.inl 94)), .inl ((.negSucc 2147483647, .ofNat 2147483647), none)]
def zyx663r : Option zAV := some (.inl ((.negSucc 0, .ofNat 2147483647), none))
noncomputable def zyx663p : List zPw := [((39, ([(0, .inr (.inr (.inl 94))), (1, .inl ((.ofNat 0, .ofNat 60), some (1, .ofNat 0))), (2, .inl ((.ofNat 0, .ofNat 2147483647), some (2, .ofNat 0))), (3, .inl ((.negSucc 2147483647, .ofNat 59), some (3, .ofNat 0))), (4, .inl ((.negSucc 2147483647, .ofNat 2147483647), some (4, .ofNat 0))), (5, .inl ((.ofNat 0, .ofNat 60), some (5, .ofNat 0)))], [], zyh775, 0, 0), [(5, .negSucc 1)], .ofNat 121), (zyx663r, zyh775), 170, 20400)]
noncomputable def zyx663d : zKw := (296, 6, 170, 20400, zyx663a, zyh2, [(zyx663r, zyh775)])
noncomputable def zbzyx663c : Bool := zchkX [] zprog2 (zovW [zyx647d, zyx648d]) 100000 k2X8_vigil [] zyx663p zyx663p
noncomputable def zbzyx663e : Bool := zrunw zprog2 (zovW [zyx647d, zyx648d]) 100000 (zcutW [] none ((zyx663r, zyh775), 170, 20400) zyx663p) 170 20400 k2X8_vigil (zkin zyx663r zyh775) 0 (zargs 0 zyx663a, [], (zyh2.1, zyh2.2.1, 0), 0, 0)
/-! X7_trade -/
noncomputable def zyx664a : List zAV := [.inr (.inr (.inl 0))]
def zyx664r : Option zAV := some (.inl ((.negSucc 1, .ofNat 9), none))
noncomputable def zyx664p : List zPw := [((35, ([(0, .inr (.inr (.inl 0))), (1, .inl ((.ofNat 0, .ofNat 9), some (1, .ofNat 0))), (2, .inl ((.ofNat 0, .ofNat 7), some (2, .ofNat 0))), (3, .inl ((.ofNat 0, .ofNat 7), some (3, .ofNat 0))), (4, .inl ((.ofNat 0, .ofNat 8), some (4, .ofNat 0)))], [], zyh777, 0, 0), [(4, .negSucc 18)], .ofNat 153), (zyx664r, zyh777), 6, 660),
  ((53, ([(0, .inr (.inr (.inl 0))), (1, .inl ((.ofNat 0, .ofNat 9), some (1, .ofNat 0))), (2, .inl ((.ofNat 0, .ofNat 7), some (2, .ofNat 0))), (3, .inl ((.ofNat 0, .ofNat 7), some (3, .ofNat 0))), (4, .inl ((.ofNat 0, .ofNat 7), some (4, .ofNat 0))), (5, .inl ((.ofNat 1, .ofNat 8), some (5, .ofNat 0)))], [], zyh777, 0, 0), [(4, .negSucc 18), (5, .negSucc 1)], .ofNat 151), (zyx664r, zyh777), 6, 660)]
noncomputable def zyx664d : zKw := (177, 7, 6, 660, zyx664a, zyh0, [(zyx664r, zyh777)])
noncomputable def zbzyx664c : Bool := zchkX [] zprog2 (zovW [zyx617d, zyx650d, zyx297d]) 100000 kX7_trade [] zyx664p zyx664p
noncomputable def zbzyx664e : Bool := zrunw zprog2 (zovW [zyx617d, zyx650d, zyx297d]) 100000 (zcutW [] none ((zyx664r, zyh777), 6, 660) zyx664p) 6 660 kX7_trade (zkin zyx664r zyh777) 0 (zargs 0 zyx664a, [], (zyh0.1, zyh0.2.1, 0), 0, 0)
/-! X8_trade -/
noncomputable def zyx665a : List zAV := [.inr (.inr (.inl 94))]
def zyx665r : Option zAV := some (.inl ((.negSucc 1, .ofNat 1000000000), none))
noncomputable def zyx665p : List zPw := [((26, ([(0, .inr (.inr (.inl 94))), (1, .inl ((.ofNat 0, .ofNat 1000000000), some (1, .ofNat 0))), (2, .inl ((.negSucc 0, .ofNat 7), some (2, .ofNat 0))), (3, .inl ((.negSucc 0, .ofNat 7), some (3, .ofNat 0))), (4, .inl ((.ofNat 0, .ofNat 8), some (4, .ofNat 0)))], [], zyh775, 0, 0), [(4, .negSucc 18)], .ofNat 153), (zyx665r, zyh775), 170, 20400),
  ((41, ([(0, .inr (.inr (.inl 94))), (1, .inl ((.ofNat 0, .ofNat 1000000000), some (1, .ofNat 0))), (2, .inl ((.negSucc 0, .ofNat 7), some (2, .ofNat 0))), (3, .inl ((.negSucc 0, .ofNat 7), some (3, .ofNat 0))), (4, .inl ((.ofNat 0, .ofNat 7), some (4, .ofNat 0))), (5, .inl ((.ofNat 1, .ofNat 8), some (5, .ofNat 0)))], [], zyh775, 0, 0), [(4, .negSucc 18), (5, .negSucc 1)], .ofNat 151), (zyx665r, zyh775), 170, 20400)]
noncomputable def zyx665d : zKw := (294, 6, 170, 20400, zyx665a, zyh2, [(zyx665r, zyh775)])
noncomputable def zbzyx665c : Bool := zchkX [] zprog2 (zovW [zyx647d, zyx648d, zyx297d]) 100000 kX8_trade [] zyx665p zyx665p
noncomputable def zbzyx665e : Bool := zrunw zprog2 (zovW [zyx647d, zyx648d, zyx297d]) 100000 (zcutW [] none ((zyx665r, zyh775), 170, 20400) zyx665p) 170 20400 kX8_trade (zkin zyx665r zyh775) 0 (zargs 0 zyx665a, [], (zyh2.1, zyh2.2.1, 0), 0, 0)
/-! J7_fill_d0a16 -/
noncomputable def zyx666a : List zAV := [.inr (.inr (.inl 72)), .inr (.inl (.ofNat 1152921504606846976, .ofNat 1152921504606846976))]
def zyx666r : Option zAV := none
noncomputable def zyx666p : List zPw := [((6, ([(0, .inr (.inr (.inl 72))), (1, .inr (.inl (.ofNat 1152921504606846976, .ofNat 1152921504606846976))), (3, .inl ((.ofNat 0, .ofNat 256), some (3, .ofNat 0))), (4, .inl ((.ofNat 256, .ofNat 256), some (4, .ofNat 0)))], [], zyh779, 0, 0), [(3, .negSucc 1)], .ofNat 513), (zyx666r, zyh779), 2, 300)]
noncomputable def zyx666d : zKw := (17, 5, 2, 300, zyx666a, zyh778, [(zyx666r, zyh779)])
noncomputable def zbzyx666c : Bool := zchkX [] zprog2 (zovW []) 100000 kJ7_fill_d0a16 [] zyx666p zyx666p
noncomputable def zbzyx666e : Bool := zrunw zprog2 (zovW []) 100000 (zcutW [] none ((zyx666r, zyh779), 2, 300) zyx666p) 2 300 kJ7_fill_d0a16 (zkin zyx666r zyh779) 0 (zargs 0 zyx666a, [], (zyh778.1, zyh778.2.1, 0), 0, 0)
/-! X4_addLeast -/
noncomputable def zyx667a : List zAV := [.inr (.inr (.inl 64)), .inl ((.ofNat 0, .ofNat 255), none)]
def zyx667r : Option zAV := none
noncomputable def zyx667p : List zPw := [((5, ([(0, .inr (.inr (.inl 64))), (1, .inl ((.ofNat 0, .ofNat 255), some (1, .ofNat 0))), (2, .inl ((.ofNat 0, .ofNat 255), some (2, .ofNat 0)))], [], zyh779, 0, 0), [(2, .ofNat 515)], .ofNat 1), (zyx667r, zyh779), 2, 300),
  ((24, ([(0, .inr (.inr (.inl 64))), (1, .inl ((.ofNat 0, .ofNat 255), some (1, .ofNat 0))), (2, .inl ((.ofNat 1, .ofNat 255), some (2, .ofNat 0))), (3, .inl ((.ofNat 0, .ofNat 255), some (3, .ofNat 0))), (4, .inr (.inl (.negSucc 9223372036854775807, .ofNat 9223372036854775807))), (6, .inl ((.ofNat 0, .ofNat 255), some (6, .ofNat 0)))], [], zyh779, 0, 0), [(2, .ofNat 515), (6, .ofNat 2)], .negSucc 512), (zyx667r, zyh779), 2, 300)]
noncomputable def zyx667d : zKw := (59, 9, 2, 300, zyx667a, zyh778, [(zyx667r, zyh779)])
noncomputable def zbzyx667c : Bool := zchkX [] zprog2 (zovW []) 100000 k2X4_addLeast [] zyx667p zyx667p
noncomputable def zbzyx667e : Bool := zrunw zprog2 (zovW []) 100000 (zcutW [] none ((zyx667r, zyh779), 2, 300) zyx667p) 2 300 k2X4_addLeast (zkin zyx667r zyh779) 0 (zargs 0 zyx667a, [], (zyh778.1, zyh778.2.1, 0), 0, 0)
/-! X4_addStep -/
noncomputable def zyx668a : List zAV := [.inr (.inr (.inl 64)), .inl ((.negSucc 8, .ofNat 9), none)]
def zyx668r : Option zAV := none
noncomputable def zyx668p : List zPw := [((7, ([(0, .inr (.inr (.inl 64))), (1, .inl ((.negSucc 8, .ofNat 9), some (1, .ofNat 0))), (2, .inl ((.ofNat 0, .ofNat 256), some (2, .ofNat 0)))], [], zyh779, 0, 0), [(2, .negSucc 1)], .ofNat 513), (zyx668r, zyh779), 3, 420)]
noncomputable def zyx668d : zKw := (61, 4, 3, 420, zyx668a, zyh778, [(zyx668r, zyh779)])
noncomputable def zbzyx668c : Bool := zchkX [] zprog2 (zovW [zyx297d]) 100000 kX4_addStep [] zyx668p zyx668p
noncomputable def zbzyx668e : Bool := zrunw zprog2 (zovW [zyx297d]) 100000 (zcutW [] none ((zyx668r, zyh779), 3, 420) zyx668p) 3 420 kX4_addStep (zkin zyx668r zyh779) 0 (zargs 0 zyx668a, [], (zyh778.1, zyh778.2.1, 0), 0, 0)
/-! X7_lowest -/
noncomputable def zyx669a : List zAV := [.inl ((.ofNat 1, .ofNat 255), none)]
def zyx669r : Option zAV := some (.inl ((.ofNat 0, .ofNat 7), none))
noncomputable def zyx669p : List zPw := []
noncomputable def zyx669d : zKw := (143, 1, 3, 420, zyx669a, zyh340, [(zyx669r, zyh340)])
noncomputable def zbzyx669e : Bool := zrunw zprog2 (zovW []) 100000 (zcutW [] none ((zyx669r, zyh340), 3, 420) zyx669p) 3 420 k2X7_lowest (zkin zyx669r zyh340) 0 (zargs 0 zyx669a, [], (zyh340.1, zyh340.2.1, 0), 0, 0)
noncomputable def zyg31 : List Bool := [zbzyx653c, zbzyx653e, zbzyx654c, zbzyx654e, zbzyx655c, zbzyx655e, zbzyx656c, zbzyx656e, zbzyx657c, zbzyx657e, zbzyx658e, zbzyx659c, zbzyx659e, zbzyx660c, zbzyx660e, zbzyx661c, zbzyx661e, zbzyx662c, zbzyx662e, zbzyx663c, zbzyx663e, zbzyx664c, zbzyx664e, zbzyx665c, zbzyx665e, zbzyx666c, zbzyx666e, zbzyx667c, zbzyx667e, zbzyx668c, zbzyx668e, zbzyx669e]
set_option maxRecDepth 100000 in
theorem zyg31_ok : zall (fun b => b) zyg31 = true := by decide +kernel
theorem zyx653c : zchkX [] zprog2 (zovW [zyx651d, zyx652d]) 100000 k2X7_first [] zyx653p zyx653p = true := zall_ok zyg31_ok (k := 0) (a := zbzyx653c) rfl
theorem zyx653e : zrunw zprog2 (zovW [zyx651d, zyx652d]) 100000 (zcutW [] none ((zyx653r, zyh774), 6, 720) zyx653p) 6 720 k2X7_first (zkin zyx653r zyh774) 0 (zargs 0 zyx653a, [], (zyh0.1, zyh0.2.1, 0), 0, 0) = true := zall_ok zyg31_ok (k := 1) (a := zbzyx653e) rfl
theorem zyx653 {l : Launch} {D : va_G} {tys : List (ClassId × FieldType)} {o : zO} {z : Nat} (E : zEnv tys) : zKnW l D vwCl tys o z (zXX o z) zTs zprog2 zyx653d :=
  zkn_mk E (fun g => List.forall_mem_cons.mpr ⟨zyx651 (o := zwith o g) E, List.forall_mem_cons.mpr ⟨zyx652 (o := zwith o g) E, fun _ h => absurd h List.not_mem_nil⟩⟩) (show zget zprog2 119 = some m2X7_first from rfl) rfl (by decide) (by decide) (by decide) (by decide) (G := zyx653p) (zkn_pt E (fun g => List.forall_mem_cons.mpr ⟨zyx651 (o := zwith o g) E, List.forall_mem_cons.mpr ⟨zyx652 (o := zwith o g) E, fun _ h => absurd h List.not_mem_nil⟩⟩) (show zget zprog2 119 = some m2X7_first from rfl) (fun _ h => absurd h List.not_mem_nil) zyx653c) zyx653e
theorem zyx654c : zchkX [] zprog2 (zovW [zyx647d, zyx648d]) 100000 k2X8_first [] zyx654p zyx654p = true := zall_ok zyg31_ok (k := 2) (a := zbzyx654c) rfl
theorem zyx654e : zrunw zprog2 (zovW [zyx647d, zyx648d]) 100000 (zcutW [] none ((zyx654r, zyh775), 170, 20400) zyx654p) 170 20400 k2X8_first (zkin zyx654r zyh775) 0 (zargs 0 zyx654a, [], (zyh2.1, zyh2.2.1, 0), 0, 0) = true := zall_ok zyg31_ok (k := 3) (a := zbzyx654e) rfl
theorem zyx654 {l : Launch} {D : va_G} {tys : List (ClassId × FieldType)} {o : zO} {z : Nat} (E : zEnv tys) : zKnW l D vwCl tys o z (zXX o z) zTs zprog2 zyx654d :=
  zkn_mk E (fun g => List.forall_mem_cons.mpr ⟨zyx647 (o := zwith o g) E, List.forall_mem_cons.mpr ⟨zyx648 (o := zwith o g) E, fun _ h => absurd h List.not_mem_nil⟩⟩) (show zget zprog2 210 = some m2X8_first from rfl) rfl (by decide) (by decide) (by decide) (by decide) (G := zyx654p) (zkn_pt E (fun g => List.forall_mem_cons.mpr ⟨zyx647 (o := zwith o g) E, List.forall_mem_cons.mpr ⟨zyx648 (o := zwith o g) E, fun _ h => absurd h List.not_mem_nil⟩⟩) (show zget zprog2 210 = some m2X8_first from rfl) (fun _ h => absurd h List.not_mem_nil) zyx654c) zyx654e
theorem zyx655c : zchkX [] zprog2 (zovW [zyx651d]) 100000 kX0_passAll [] zyx655p zyx655p = true := zall_ok zyg31_ok (k := 4) (a := zbzyx655c) rfl
theorem zyx655e : zrunw zprog2 (zovW [zyx651d]) 100000 (zcutW [] none ((zyx655r, zyh773), 6, 720) zyx655p) 6 720 kX0_passAll (zkin zyx655r zyh773) 0 (zargs 0 zyx655a, [], (zyh0.1, zyh0.2.1, 0), 0, 0) = true := zall_ok zyg31_ok (k := 5) (a := zbzyx655e) rfl
theorem zyx655 {l : Launch} {D : va_G} {tys : List (ClassId × FieldType)} {o : zO} {z : Nat} (E : zEnv tys) : zKnW l D vwCl tys o z (zXX o z) zTs zprog2 zyx655d :=
  zkn_mk E (fun g => List.forall_mem_cons.mpr ⟨zyx651 (o := zwith o g) E, fun _ h => absurd h List.not_mem_nil⟩) (show zget zprog2 26 = some mX0_passAll from rfl) rfl (by decide) (by decide) (by decide) (by decide) (G := zyx655p) (zkn_pt E (fun g => List.forall_mem_cons.mpr ⟨zyx651 (o := zwith o g) E, fun _ h => absurd h List.not_mem_nil⟩) (show zget zprog2 26 = some mX0_passAll from rfl) (fun _ h => absurd h List.not_mem_nil) zyx655c) zyx655e
theorem zyx656c : zchkX [] zprog2 (zovW []) 100000 kX5_mostTired [] zyx656p zyx656p = true := zall_ok zyg31_ok (k := 6) (a := zbzyx656c) rfl
theorem zyx656e : zrunw zprog2 (zovW []) 100000 (zcutW [] none ((zyx656r, zyh0), 2, 300) zyx656p) 2 300 kX5_mostTired (zkin zyx656r zyh0) 0 (zargs 0 zyx656a, [], (zyh0.1, zyh0.2.1, 0), 0, 0) = true := zall_ok zyg31_ok (k := 7) (a := zbzyx656e) rfl
theorem zyx656 {l : Launch} {D : va_G} {tys : List (ClassId × FieldType)} {o : zO} {z : Nat} (E : zEnv tys) : zKnW l D vwCl tys o z (zXX o z) zTs zprog2 zyx656d :=
  zkn_mk E (fun g => fun _ h => absurd h List.not_mem_nil) (show zget zprog2 89 = some mX5_mostTired from rfl) rfl (by decide) (by decide) (by decide) (by decide) (G := zyx656p) (zkn_pt E (fun g => fun _ h => absurd h List.not_mem_nil) (show zget zprog2 89 = some mX5_mostTired from rfl) (fun _ h => absurd h List.not_mem_nil) zyx656c) zyx656e
theorem zyx657c : zchkX [] zprog2 (zovW []) 100000 kX5_tiredOfAll [] zyx657p zyx657p = true := zall_ok zyg31_ok (k := 8) (a := zbzyx657c) rfl
theorem zyx657e : zrunw zprog2 (zovW []) 100000 (zcutW [] none ((zyx657r, zyh0), 2, 300) zyx657p) 2 300 kX5_tiredOfAll (zkin zyx657r zyh0) 0 (zargs 0 zyx657a, [], (zyh0.1, zyh0.2.1, 0), 0, 0) = true := zall_ok zyg31_ok (k := 9) (a := zbzyx657e) rfl
theorem zyx657 {l : Launch} {D : va_G} {tys : List (ClassId × FieldType)} {o : zO} {z : Nat} (E : zEnv tys) : zKnW l D vwCl tys o z (zXX o z) zTs zprog2 zyx657d :=
  zkn_mk E (fun g => fun _ h => absurd h List.not_mem_nil) (show zget zprog2 90 = some mX5_tiredOfAll from rfl) rfl (by decide) (by decide) (by decide) (by decide) (G := zyx657p) (zkn_pt E (fun g => fun _ h => absurd h List.not_mem_nil) (show zget zprog2 90 = some mX5_tiredOfAll from rfl) (fun _ h => absurd h List.not_mem_nil) zyx657c) zyx657e
theorem zyx658e : zrunw zprog2 (zovW [zyx656d, zyx657d, zyx655d]) 100000 (zcutW [] none ((zyx658r, zyh774), 7, 840) zyx658p) 7 840 k2X7_later (zkin zyx658r zyh774) 0 (zargs 0 zyx658a, [], (zyh0.1, zyh0.2.1, 0), 0, 0) = true := zall_ok zyg31_ok (k := 10) (a := zbzyx658e) rfl
theorem zyx658 {l : Launch} {D : va_G} {tys : List (ClassId × FieldType)} {o : zO} {z : Nat} (E : zEnv tys) : zKnW l D vwCl tys o z (zXX o z) zTs zprog2 zyx658d :=
  zkn_mk E (fun g => List.forall_mem_cons.mpr ⟨zyx656 (o := zwith o g) E, List.forall_mem_cons.mpr ⟨zyx657 (o := zwith o g) E, List.forall_mem_cons.mpr ⟨zyx655 (o := zwith o g) E, fun _ h => absurd h List.not_mem_nil⟩⟩⟩) (show zget zprog2 140 = some m2X7_later from rfl) rfl (by decide) (by decide) (by decide) (by decide) (G := zyx658p) (fun _ h => absurd h List.not_mem_nil) zyx658e
theorem zyx659c : zchkX [] zprog2 (zovW [zyx647d]) 100000 kX8_goNights [] zyx659p zyx659p = true := zall_ok zyg31_ok (k := 11) (a := zbzyx659c) rfl
theorem zyx659e : zrunw zprog2 (zovW [zyx647d]) 100000 (zcutW [] none ((zyx659r, zyh768), 170, 20400) zyx659p) 170 20400 kX8_goNights (zkin zyx659r zyh768) 0 (zargs 0 zyx659a, [], (zyh658.1, zyh658.2.1, 0), 0, 0) = true := zall_ok zyg31_ok (k := 12) (a := zbzyx659e) rfl
theorem zyx659 {l : Launch} {D : va_G} {tys : List (ClassId × FieldType)} {o : zO} {z : Nat} (E : zEnv tys) : zKnW l D vwCl tys o z (zXX o z) zTs zprog2 zyx659d :=
  zkn_mk E (fun g => List.forall_mem_cons.mpr ⟨zyx647 (o := zwith o g) E, fun _ h => absurd h List.not_mem_nil⟩) (show zget zprog2 221 = some mX8_goNights from rfl) rfl (by decide) (by decide) (by decide) (by decide) (G := zyx659p) (zkn_pt E (fun g => List.forall_mem_cons.mpr ⟨zyx647 (o := zwith o g) E, fun _ h => absurd h List.not_mem_nil⟩) (show zget zprog2 221 = some mX8_goNights from rfl) (fun _ h => absurd h List.not_mem_nil) zyx659c) zyx659e
theorem zyx660c : zchkX [] zprog2 (zovW []) 100000 kX8_tired [] zyx660p zyx660p = true := zall_ok zyg31_ok (k := 13) (a := zbzyx660c) rfl
theorem zyx660e : zrunw zprog2 (zovW []) 100000 (zcutW [] none ((zyx660r, zyh776), 2, 300) zyx660p) 2 300 kX8_tired (zkin zyx660r zyh776) 0 (zargs 0 zyx660a, [], (zyh776.1, zyh776.2.1, 0), 0, 0) = true := zall_ok zyg31_ok (k := 14) (a := zbzyx660e) rfl
theorem zyx660 {l : Launch} {D : va_G} {tys : List (ClassId × FieldType)} {o : zO} {z : Nat} (E : zEnv tys) : zKnW l D vwCl tys o z (zXX o z) zTs zprog2 zyx660d :=
  zkn_mk E (fun g => fun _ h => absurd h List.not_mem_nil) (show zget zprog2 293 = some mX8_tired from rfl) rfl (by decide) (by decide) (by decide) (by decide) (G := zyx660p) (zkn_pt E (fun g => fun _ h => absurd h List.not_mem_nil) (show zget zprog2 293 = some mX8_tired from rfl) (fun _ h => absurd h List.not_mem_nil) zyx660c) zyx660e
theorem zyx661c : zchkX [] zprog2 (zovW [zyx648d, zyx660d, zyx659d]) 100000 k2X8_later [] zyx661p zyx661p = true := zall_ok zyg31_ok (k := 15) (a := zbzyx661c) rfl
theorem zyx661e : zrunw zprog2 (zovW [zyx648d, zyx660d, zyx659d]) 100000 (zcutW [] none ((zyx661r, zyh775), 171, 20520) zyx661p) 171 20520 k2X8_later (zkin zyx661r zyh775) 0 (zargs 0 zyx661a, [], (zyh2.1, zyh2.2.1, 0), 0, 0) = true := zall_ok zyg31_ok (k := 16) (a := zbzyx661e) rfl
theorem zyx661 {l : Launch} {D : va_G} {tys : List (ClassId × FieldType)} {o : zO} {z : Nat} (E : zEnv tys) : zKnW l D vwCl tys o z (zXX o z) zTs zprog2 zyx661d :=
  zkn_mk E (fun g => List.forall_mem_cons.mpr ⟨zyx648 (o := zwith o g) E, List.forall_mem_cons.mpr ⟨zyx660 (o := zwith o g) E, List.forall_mem_cons.mpr ⟨zyx659 (o := zwith o g) E, fun _ h => absurd h List.not_mem_nil⟩⟩⟩) (show zget zprog2 244 = some m2X8_later from rfl) rfl (by decide) (by decide) (by decide) (by decide) (G := zyx661p) (zkn_pt E (fun g => List.forall_mem_cons.mpr ⟨zyx648 (o := zwith o g) E, List.forall_mem_cons.mpr ⟨zyx660 (o := zwith o g) E, List.forall_mem_cons.mpr ⟨zyx659 (o := zwith o g) E, fun _ h => absurd h List.not_mem_nil⟩⟩⟩) (show zget zprog2 244 = some m2X8_later from rfl) (fun _ h => absurd h List.not_mem_nil) zyx661c) zyx661e
theorem zyx662c : zchkX [] zprog2 (zovW [zyx651d]) 100000 k2X7_vigil [] zyx662p zyx662p = true := zall_ok zyg31_ok (k := 17) (a := zbzyx662c) rfl
theorem zyx662e : zrunw zprog2 (zovW [zyx651d]) 100000 (zcutW [] none ((zyx662r, zyh774), 6, 720) zyx662p) 6 720 k2X7_vigil (zkin zyx662r zyh774) 0 (zargs 0 zyx662a, [], (zyh0.1, zyh0.2.1, 0), 0, 0) = true := zall_ok zyg31_ok (k := 18) (a := zbzyx662e) rfl
theorem zyx662 {l : Launch} {D : va_G} {tys : List (ClassId × FieldType)} {o : zO} {z : Nat} (E : zEnv tys) : zKnW l D vwCl tys o z (zXX o z) zTs zprog2 zyx662d :=
  zkn_mk E (fun g => List.forall_mem_cons.mpr ⟨zyx651 (o := zwith o g) E, fun _ h => absurd h List.not_mem_nil⟩) (show zget zprog2 179 = some m2X7_vigil from rfl) rfl (by decide) (by decide) (by decide) (by decide) (G := zyx662p) (zkn_pt E (fun g => List.forall_mem_cons.mpr ⟨zyx651 (o := zwith o g) E, fun _ h => absurd h List.not_mem_nil⟩) (show zget zprog2 179 = some m2X7_vigil from rfl) (fun _ h => absurd h List.not_mem_nil) zyx662c) zyx662e
theorem zyx663c : zchkX [] zprog2 (zovW [zyx647d, zyx648d]) 100000 k2X8_vigil [] zyx663p zyx663p = true := zall_ok zyg31_ok (k := 19) (a := zbzyx663c) rfl
theorem zyx663e : zrunw zprog2 (zovW [zyx647d, zyx648d]) 100000 (zcutW [] none ((zyx663r, zyh775), 170, 20400) zyx663p) 170 20400 k2X8_vigil (zkin zyx663r zyh775) 0 (zargs 0 zyx663a, [], (zyh2.1, zyh2.2.1, 0), 0, 0) = true := zall_ok zyg31_ok (k := 20) (a := zbzyx663e) rfl
theorem zyx663 {l : Launch} {D : va_G} {tys : List (ClassId × FieldType)} {o : zO} {z : Nat} (E : zEnv tys) : zKnW l D vwCl tys o z (zXX o z) zTs zprog2 zyx663d :=
  zkn_mk E (fun g => List.forall_mem_cons.mpr ⟨zyx647 (o := zwith o g) E, List.forall_mem_cons.mpr ⟨zyx648 (o := zwith o g) E, fun _ h => absurd h List.not_mem_nil⟩⟩) (show zget zprog2 296 = some m2X8_vigil from rfl) rfl (by decide) (by decide) (by decide) (by decide) (G := zyx663p) (zkn_pt E (fun g => List.forall_mem_cons.mpr ⟨zyx647 (o := zwith o g) E, List.forall_mem_cons.mpr ⟨zyx648 (o := zwith o g) E, fun _ h => absurd h List.not_mem_nil⟩⟩) (show zget zprog2 296 = some m2X8_vigil from rfl) (fun _ h => absurd h List.not_mem_nil) zyx663c) zyx663e
theorem zyx664c : zchkX [] zprog2 (zovW [zyx617d, zyx650d, zyx297d]) 100000 kX7_trade [] zyx664p zyx664p = true := zall_ok zyg31_ok (k := 21) (a := zbzyx664c) rfl
theorem zyx664e : zrunw zprog2 (zovW [zyx617d, zyx650d, zyx297d]) 100000 (zcutW [] none ((zyx664r, zyh777), 6, 660) zyx664p) 6 660 kX7_trade (zkin zyx664r zyh777) 0 (zargs 0 zyx664a, [], (zyh0.1, zyh0.2.1, 0), 0, 0) = true := zall_ok zyg31_ok (k := 22) (a := zbzyx664e) rfl
theorem zyx664 {l : Launch} {D : va_G} {tys : List (ClassId × FieldType)} {o : zO} {z : Nat} (E : zEnv tys) : zKnW l D vwCl tys o z (zXX o z) zTs zprog2 zyx664d :=
  zkn_mk E (fun g => List.forall_mem_cons.mpr ⟨zyx617 (o := zwith o g) E, List.forall_mem_cons.mpr ⟨zyx650 (o := zwith o g) E, List.forall_mem_cons.mpr ⟨zyx297 (o := zwith o g) E, fun _ h => absurd h List.not_mem_nil⟩⟩⟩) (show zget zprog2 177 = some mX7_trade from rfl) rfl (by decide) (by decide) (by decide) (by decide) (G := zyx664p) (zkn_pt E (fun g => List.forall_mem_cons.mpr ⟨zyx617 (o := zwith o g) E, List.forall_mem_cons.mpr ⟨zyx650 (o := zwith o g) E, List.forall_mem_cons.mpr ⟨zyx297 (o := zwith o g) E, fun _ h => absurd h List.not_mem_nil⟩⟩⟩) (show zget zprog2 177 = some mX7_trade from rfl) (fun _ h => absurd h List.not_mem_nil) zyx664c) zyx664e
theorem zyx665c : zchkX [] zprog2 (zovW [zyx647d, zyx648d, zyx297d]) 100000 kX8_trade [] zyx665p zyx665p = true := zall_ok zyg31_ok (k := 23) (a := zbzyx665c) rfl
theorem zyx665e : zrunw zprog2 (zovW [zyx647d, zyx648d, zyx297d]) 100000 (zcutW [] none ((zyx665r, zyh775), 170, 20400) zyx665p) 170 20400 kX8_trade (zkin zyx665r zyh775) 0 (zargs 0 zyx665a, [], (zyh2.1, zyh2.2.1, 0), 0, 0) = true := zall_ok zyg31_ok (k := 24) (a := zbzyx665e) rfl
theorem zyx665 {l : Launch} {D : va_G} {tys : List (ClassId × FieldType)} {o : zO} {z : Nat} (E : zEnv tys) : zKnW l D vwCl tys o z (zXX o z) zTs zprog2 zyx665d :=
  zkn_mk E (fun g => List.forall_mem_cons.mpr ⟨zyx647 (o := zwith o g) E, List.forall_mem_cons.mpr ⟨zyx648 (o := zwith o g) E, List.forall_mem_cons.mpr ⟨zyx297 (o := zwith o g) E, fun _ h => absurd h List.not_mem_nil⟩⟩⟩) (show zget zprog2 294 = some mX8_trade from rfl) rfl (by decide) (by decide) (by decide) (by decide) (G := zyx665p) (zkn_pt E (fun g => List.forall_mem_cons.mpr ⟨zyx647 (o := zwith o g) E, List.forall_mem_cons.mpr ⟨zyx648 (o := zwith o g) E, List.forall_mem_cons.mpr ⟨zyx297 (o := zwith o g) E, fun _ h => absurd h List.not_mem_nil⟩⟩⟩) (show zget zprog2 294 = some mX8_trade from rfl) (fun _ h => absurd h List.not_mem_nil) zyx665c) zyx665e
theorem zyx666c : zchkX [] zprog2 (zovW []) 100000 kJ7_fill_d0a16 [] zyx666p zyx666p = true := zall_ok zyg31_ok (k := 25) (a := zbzyx666c) rfl
theorem zyx666e : zrunw zprog2 (zovW []) 100000 (zcutW [] none ((zyx666r, zyh779), 2, 300) zyx666p) 2 300 kJ7_fill_d0a16 (zkin zyx666r zyh779) 0 (zargs 0 zyx666a, [], (zyh778.1, zyh778.2.1, 0), 0, 0) = true := zall_ok zyg31_ok (k := 26) (a := zbzyx666e) rfl
theorem zyx666 {l : Launch} {D : va_G} {tys : List (ClassId × FieldType)} {o : zO} {z : Nat} (E : zEnv tys) : zKnW l D vwCl tys o z (zXX o z) zTs zprog2 zyx666d :=
  zkn_mk E (fun g => fun _ h => absurd h List.not_mem_nil) (show zget zprog2 17 = some mJ7_fill_d0a16 from rfl) rfl (by decide) (by decide) (by decide) (by decide) (G := zyx666p) (zkn_pt E (fun g => fun _ h => absurd h List.not_mem_nil) (show zget zprog2 17 = some mJ7_fill_d0a16 from rfl) (fun _ h => absurd h List.not_mem_nil) zyx666c) zyx666e
theorem zyx667c : zchkX [] zprog2 (zovW []) 100000 k2X4_addLeast [] zyx667p zyx667p = true := zall_ok zyg31_ok (k := 27) (a := zbzyx667c) rfl
theorem zyx667e : zrunw zprog2 (zovW []) 100000 (zcutW [] none ((zyx667r, zyh779), 2, 300) zyx667p) 2 300 k2X4_addLeast (zkin zyx667r zyh779) 0 (zargs 0 zyx667a, [], (zyh778.1, zyh778.2.1, 0), 0, 0) = true := zall_ok zyg31_ok (k := 28) (a := zbzyx667e) rfl
theorem zyx667 {l : Launch} {D : va_G} {tys : List (ClassId × FieldType)} {o : zO} {z : Nat} (E : zEnv tys) : zKnW l D vwCl tys o z (zXX o z) zTs zprog2 zyx667d :=
  zkn_mk E (fun g => fun _ h => absurd h List.not_mem_nil) (show zget zprog2 59 = some m2X4_addLeast from rfl) rfl (by decide) (by decide) (by decide) (by decide) (G := zyx667p) (zkn_pt E (fun g => fun _ h => absurd h List.not_mem_nil) (show zget zprog2 59 = some m2X4_addLeast from rfl) (fun _ h => absurd h List.not_mem_nil) zyx667c) zyx667e
theorem zyx668c : zchkX [] zprog2 (zovW [zyx297d]) 100000 kX4_addStep [] zyx668p zyx668p = true := zall_ok zyg31_ok (k := 29) (a := zbzyx668c) rfl
theorem zyx668e : zrunw zprog2 (zovW [zyx297d]) 100000 (zcutW [] none ((zyx668r, zyh779), 3, 420) zyx668p) 3 420 kX4_addStep (zkin zyx668r zyh779) 0 (zargs 0 zyx668a, [], (zyh778.1, zyh778.2.1, 0), 0, 0) = true := zall_ok zyg31_ok (k := 30) (a := zbzyx668e) rfl
theorem zyx668 {l : Launch} {D : va_G} {tys : List (ClassId × FieldType)} {o : zO} {z : Nat} (E : zEnv tys) : zKnW l D vwCl tys o z (zXX o z) zTs zprog2 zyx668d :=
  zkn_mk E (fun g => List.forall_mem_cons.mpr ⟨zyx297 (o := zwith o g) E, fun _ h => absurd h List.not_mem_nil⟩) (show zget zprog2 61 = some mX4_addStep from rfl) rfl (by decide) (by decide) (by decide) (by decide) (G := zyx668p) (zkn_pt E (fun g => List.forall_mem_cons.mpr ⟨zyx297 (o := zwith o g) E, fun _ h => absurd h List.not_mem_nil⟩) (show zget zprog2 61 = some mX4_addStep from rfl) (fun _ h => absurd h List.not_mem_nil) zyx668c) zyx668e
theorem zyx669e : zrunw zprog2 (zovW []) 100000 (zcutW [] none ((zyx669r, zyh340), 3, 420) zyx669p) 3 420 k2X7_lowest (zkin zyx669r zyh340) 0 (zargs 0 zyx669a, [], (zyh340.1, zyh340.2.1, 0), 0, 0) = true := zall_ok zyg31_ok (k := 31) (a := zbzyx669e) rfl
theorem zyx669 {l : Launch} {D : va_G} {tys : List (ClassId × FieldType)} {o : zO} {z : Nat} (E : zEnv tys) : zKnW l D vwCl tys o z (zXX o z) zTs zprog2 zyx669d :=
  zkn_mk E (fun g => fun _ h => absurd h List.not_mem_nil) (show zget zprog2 143 = some m2X7_lowest from rfl) rfl (by decide) (by decide) (by decide) (by decide) (G := zyx669p) (fun _ h => absurd h List.not_mem_nil) zyx669e

