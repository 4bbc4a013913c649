noncomputable def zyh897 : zH := (126, [zyr20, zyr1, zyr2, zyr3, zyr4, zyr5, zyr6, zyr7], 0)
noncomputable def zyh898 : zH := (126, [zyr20, zyr1, zyr2, zyr3, zyr4, zyr5, zyr6, zyr7], zym13)
def zym98 : Nat := 7397690107149016241377626707512553359319478206341867306420532387128982093368174300121150650738810063659611612846040349810095860381121094894854071553551138544305970843528280830583839948486595786668244918212714580953829488190049707332545772918822069358477434134477271296268339733177649544844542793669212508948864998841191494253299774479818434624186896355269079907598508881431648971068200344408021078117648811791523613288028130913769239700177670123973353973303475282919684802698948450421443551572659939267597016783772475603859899421837923110295064433060306373160604771277831064592310554183675402994154393413075109968308892946822995486171382448571815941494466294354534425632019787197624328483528871435912461707644113438894242889117012617853150066383488983981912987542846705220634744165636111848652542843175749937519669226454202379556817991400244366500671778906162048801361517218392962718130844539972856491391415248957789327929620232482626867908337805971906036481809256247724300197683252337075182798212644823387362537895146133609496576921563586277766545720149528817323806834875558767276085643470810736728385038349743215216848377176226892905758598295096357990932583156776141323391085248714454839349762027533717118835517378793186947877861938517450985579380160664074519870153620959464755184413139068967906015405779454965274099587083167851538126429778597168837912570740092469500252822784059105792948372448040137062671772176801265283929991715087447624107586765009494344843494222134368112984399617345479865769689732604961760335159689962691598865753481703742979669494590399886802583634643305218228362529167794889040222749677533744128128043881738495846396007486918230016
noncomputable def zyh899 : zH := (126, [zyr20, zyr1, zyr2, zyr3, zyr4, zyr5, zyr6, zyr7], zym98)
def zym99 : Nat := 7397690107149016241377626707512553359319478206341867306420532387128982093368174300121150650738810063659611612846040349810095860381121094894854071553551138544305970843528280830583839948486595786668244918212714580953829488190049707332545772918822069358477434134477271296268339733177649544844542793669212508948864998841191494253299774479818434624186896355269079907598508881431648971068200344408021078117648811791523613288028130913769239700177670123973353973303475282919684802698948450421443551572659939267597016783772475603859899421837923110295064433060306373160604771277831064592310554183675402994154393413075109968308892946822995486171382448571815941494466294354534425632019787197624328483528871435912461707644113438894242889117012617853150066383488983981912987542846705220634744165636111848652542843175749937519669226454202379556817991400244366500671778906162048801361517218392962718130844539972856491391415248957789327929620232482626867908337805971906036481809256247724300197683252337075182798212644823387362537895146133609496576921563586277766545720149528817323806834875558767276085643470810736728385038349743215216848377176226892905758598295096357990932583156776141323391085248714454839349762027533717118835517378793186947877861938517450985579380160664074519870153620959464755184413139068967906015405779454965274099587083167851538126429778597168837912570740092469500252822784059105792948372448040137062671772176801265283929991715087447624107586765009494344843494222134368112984399617345479865769689732604961760335159690689530323161360372253066787557499124753528163270952703586708427543168455908286963548940728247507693688806403344762024329542088546844672
noncomputable def zyh900 : zH := (126, [zyr20, zyr1, zyr2, zyr3, zyr4, zyr5, zyr6, zyr7], zym99)
def zym100 : Nat := 136463296143190893256005960555642455592461771784470703901643242874355598657891550780217206795953438652522235972827999611980699773355427066924729365247813620327687462768897410590563599085167138321979600057491047073530236501723277328861765836652715951083755523058285631627779534851904099680397760845657736654028729584122933374108265160688464737137578670651636347721241077152547323247403629573805156697673963536797388349045705698579785610692223542836614848514161767134864360164649966061780093830313004411235993854698884025325748395853124583446301383272491013408584944255042214197351410296371005064696262831191412870485457423442090240859217283844057677363590344057320303793523640165789322625164237041243388440841584011410971178732271815709253789187601031133756319688536504703936240900111953503931993343601753190896668700266928211506885113283475648846906823202576829609926994179566730211511641536599025124055967756076278830947597995781122611640444222822637644189370709921890933548959073702570556677179321783184911411512588836432646661072019466890525483334308599252339091228293847115834630203554068583265302545709549711050837026715376148137703303105983095289868789690181181803285486470412040445332141089444446918862589059988458545223928983342017903312764926742343047732431371543171855624825344343960284862873672037270968891361113738539733800999050641692087497005070864277071819277361957937599510621339295876332162320220439239169754394431951031762285828917522873918235292584877621812321272284998857067560712292900303585095187298515921957445810398067686106465985233197670553172960999760013172293790933671613095583309148214542369979568540935634636819041306164158044165661459299080077312
noncomputable def zyh901 : zH := (126, [zyr20, zyr1, zyr2, zyr3, zyr4, zyr5, zyr6, zyr7], zym100)
noncomputable def zyh902 : zH := (126, [zyr0, zyr1, zyr2, zyr3, zyr4, zyr307, zyr6, zyr7], 0)
noncomputable def zyc792 : zC := .inr (8, [zyv114, zyv26, zyv27, zyv25, zyv115, zyv116, zyv117, zyv118, zyv126, zyv119, zyv25, zyv126, zyv120, zyv35, zyv319, zyv35, zyv122, zyv123, zyv124, zyv125, zyv35, zyv126, zyv127, zyv128, zyv13, zyv129, zyv130, zyv18, zyv18, zyv131, zyv132, zyv133, zyv134, zyv135, zyv136, zyv137, zyv138, zyv139, zyv140, zyv141, zyv142, zyv143, zyv144, zyv145, zyv15, zyv13, zyv15, zyv15, zyv146, zyv147, zyv148])
noncomputable def zyr713 : List zC := [zyc46, zyc46, zyc47, zyc48, zyc10, zyc11, zyc10, zyc12, zyc49, zyc14, zyc15, zyc50, zyc14, zyc15, zyc792, zyc52]
def zym101 : Nat := 452533921925114549416501081502688749909130594297896758339130731392079681293955674231909653926849047043890944192030098030983970722224651186732833952092540397935341592005519907608726024126801344890576573850743525899457603231457133937581316727787496263518141376224638795287571699394235797877922304677957993088916625903397059071028504064000811711786172244208762354584892856699760527787152262274893259115768380947224027769132738504517183965382342066135140144856329351689450976682373698719660003572532417231774036394329996788900187977384025494202746119226695677296455212886314297028041810211353156288837537624780223800953218705825858751719372999732005502653369183511230983991122320321364386582694455019132777574262113362283526541893079869852205815162377537699418731921782149097890983496767908685361749713280119075022828543408711335579098102481885190089052192893173333400291006956854061057561628288915198539071192736556211972462970543464328448183157891159110840534371848050962939090914898766368058220787083555706468891277651919187443666449979033554014594421644693667481582547552409809335951439981275347493678888352379601366350086258146475552077441754973456810137515846053018956273469559841639535685090817102688772075730610209197165736793675493980388402974015402888172909690731412295189308780021356324650243417039625703528619103055314012040088363284696721215380009266094933549667383341988880805161156469750044596784588127627233745963575002510601610902114251562054708744177298699938291631959096661201225313853597890249992541115049246097626841743871019475591693256650424098129471145815585825892427340116897514651989236548782968414958633532594777328462932955851045078996430270260890251774343445785876870192408086751552118631065462075420814112948984999193149740834778842254679312876686532686525035801062203285049067262553558709265315355718823000252808471143546392516370340518981361813501777746931429484013145341001435222212272947281292130407438784639747191956784017272377779600389002371188803444944786036874798956544
noncomputable def zyh903 : zH := (126, [zyr0, zyr1, zyr2, zyr3, zyr4, zyr713, zyr6, zyr7], zym101)
noncomputable def zyc793 : zC := .inr (8, [zyv114, zyv157, zyv27, zyv25, zyv115, zyv116, zyv117, zyv118, zyv126, zyv119, zyv25, zyv126, zyv118, zyv35, zyv319, zyv35, zyv166, zyv123, zyv124, zyv125, zyv35, zyv126, zyv127, zyv128, zyv13, zyv129, zyv130, zyv18, zyv18, zyv131, zyv132, zyv133, zyv134, zyv135, zyv136, zyv137, zyv138, zyv139, zyv140, zyv141, zyv142, zyv143, zyv144, zyv145, zyv15, zyv13, zyv15, zyv15, zyv146, zyv147, zyv148])
noncomputable def zyr714 : List zC := [zyc46, zyc46, zyc47, zyc48, zyc10, zyc11, zyc10, zyc12, zyc49, zyc14, zyc15, zyc50, zyc14, zyc15, zyc793, zyc52]
noncomputable def zyh904 : zH := (126, [zyr0, zyr1, zyr2, zyr3, zyr4, zyr714, zyr6, zyr7], zym101)
noncomputable def zyc794 : zC := .inr (8, [zyv114, zyv158, zyv27, zyv25, zyv115, zyv116, zyv117, zyv118, zyv126, zyv119, zyv25, zyv126, zyv118, zyv35, zyv319, zyv35, zyv166, zyv123, zyv124, zyv125, zyv35, zyv126, zyv127, zyv128, zyv13, zyv129, zyv130, zyv18, zyv18, zyv131, zyv132, zyv133, zyv134, zyv135, zyv136, zyv137, zyv138, zyv139, zyv140, zyv141, zyv142, zyv143, zyv144, zyv145, zyv15, zyv13, zyv15, zyv15, zyv146, zyv147, zyv148])
noncomputable def zyr715 : List zC := [zyc46, zyc46, zyc47, zyc48, zyc10, zyc11, zyc10, zyc12, zyc49, zyc14, zyc15, zyc50, zyc14, zyc15, zyc794, zyc52]
noncomputable def zyh905 : zH := (126, [zyr0, zyr1, zyr2, zyr3, zyr4, zyr715, zyr6, zyr7], zym101)
noncomputable def zyc795 : zC := .inr (8, [zyv114, zyv159, zyv27, zyv25, zyv115, zyv116, zyv117, zyv118, zyv126, zyv119, zyv25, zyv126, zyv118, zyv35, zyv319, zyv35, zyv166, zyv123, zyv124, zyv125, zyv35, zyv126, zyv127, zyv128, zyv13, zyv129, zyv130, zyv18, zyv18, zyv131, zyv132, zyv133, zyv134, zyv135, zyv136, zyv137, zyv138, zyv139, zyv140, zyv141, zyv142, zyv143, zyv144, zyv145, zyv15, zyv13, zyv15, zyv15, zyv146, zyv147, zyv148])
noncomputable def zyr716 : List zC := [zyc46, zyc46, zyc47, zyc48, zyc10, zyc11, zyc10, zyc12, zyc49, zyc14, zyc15, zyc50, zyc14, zyc15, zyc795, zyc52]
noncomputable def zyh906 : zH := (126, [zyr0, zyr1, zyr2, zyr3, zyr4, zyr716, zyr6, zyr7], zym101)
noncomputable def zyc796 : zC := .inr (8, [zyv114, zyv160, zyv27, zyv25, zyv115, zyv116, zyv117, zyv118, zyv126, zyv119, zyv25, zyv126, zyv118, zyv35, zyv319, zyv35, zyv166, zyv123, zyv124, zyv125, zyv35, zyv126, zyv127, zyv128, zyv13, zyv129, zyv130, zyv18, zyv18, zyv131, zyv132, zyv133, zyv134, zyv135, zyv136, zyv137, zyv138, zyv139, zyv140, zyv141, zyv142, zyv143, zyv144, zyv145, zyv15, zyv13, zyv15, zyv15, zyv146, zyv147, zyv148])
noncomputable def zyr717 : List zC := [zyc46, zyc46, zyc47, zyc48, zyc10, zyc11, zyc10, zyc12, zyc49, zyc14, zyc15, zyc50, zyc14, zyc15, zyc796, zyc52]
noncomputable def zyh907 : zH := (126, [zyr0, zyr1, zyr2, zyr3, zyr4, zyr717, zyr6, zyr7], zym101)
noncomputable def zyc797 : zC := .inr (8, [zyv114, zyv161, zyv27, zyv25, zyv115, zyv116, zyv117, zyv118, zyv126, zyv119, zyv25, zyv126, zyv118, zyv35, zyv319, zyv35, zyv166, zyv123, zyv124, zyv125, zyv35, zyv126, zyv127, zyv128, zyv13, zyv129, zyv130, zyv18, zyv18, zyv131, zyv132, zyv133, zyv134, zyv135, zyv136, zyv137, zyv138, zyv139, zyv140, zyv141, zyv142, zyv143, zyv144, zyv145, zyv15, zyv13, zyv15, zyv15, zyv146, zyv147, zyv148])
noncomputable def zyr718 : List zC := [zyc46, zyc46, zyc47, zyc48, zyc10, zyc11, zyc10, zyc12, zyc49, zyc14, zyc15, zyc50, zyc14, zyc15, zyc797, zyc52]
noncomputable def zyh908 : zH := (126, [zyr0, zyr1, zyr2, zyr3, zyr4, zyr718, zyr6, zyr7], zym101)
noncomputable def zyc798 : zC := .inr (8, [zyv114, zyv162, zyv27, zyv25, zyv115, zyv116, zyv117, zyv118, zyv126, zyv119, zyv25, zyv126, zyv118, zyv35, zyv319, zyv35, zyv166, zyv123, zyv124, zyv125, zyv35, zyv126, zyv127, zyv128, zyv13, zyv129, zyv130, zyv18, zyv18, zyv131, zyv132, zyv133, zyv134, zyv135, zyv136, zyv137, zyv138, zyv139, zyv140, zyv141, zyv142, zyv143, zyv144, zyv145, zyv15, zyv13, zyv15, zyv15, zyv146, zyv147, zyv148])
noncomputable def zyr719 : List zC := [zyc46, zyc46, zyc47, zyc48, zyc10, zyc11, zyc10, zyc12, zyc49, zyc14, zyc15, zyc50, zyc14, zyc15, zyc798, zyc52]
noncomputable def zyh909 : zH := (126, [zyr0, zyr1, zyr2, zyr3, zyr4, zyr719, zyr6, zyr7], zym101)
noncomputable def zyc799 : zC := .inr (8, [zyv114, zyv163, zyv27, zyv25, zyv115, zyv116, zyv117, zyv118, zyv126, zyv119, zyv25, zyv126, zyv118, zyv35, zyv319, zyv35, zyv166, zyv123, zyv124, zyv125, zyv35, zyv126, zyv127, zyv128, zyv13, zyv129, zyv130, zyv18, zyv18, zyv131, zyv132, zyv133, zyv134, zyv135, zyv136, zyv137, zyv138, zyv139, zyv140, zyv141, zyv142, zyv143, zyv144, zyv145, zyv15, zyv13, zyv15, zyv15, zyv146, zyv147, zyv148])
noncomputable def zyr720 : List zC := [zyc46, zyc46, zyc47, zyc48, zyc10, zyc11, zyc10, zyc12, zyc49, zyc14, zyc15, zyc50, zyc14, zyc15, zyc799, zyc52]
noncomputable def zyh910 : zH := (126, [zyr0, zyr1, zyr2, zyr3, zyr4, zyr720, zyr6, zyr7], zym101)
noncomputable def zyc800 : zC := .inr (8, [zyv114, zyv164, zyv27, zyv25, zyv115, zyv116, zyv117, zyv118, zyv126, zyv119, zyv25, zyv126, zyv118, zyv35, zyv319, zyv35, zyv166, zyv123, zyv124, zyv125, zyv35, zyv126, zyv127, zyv128, zyv13, zyv129, zyv130, zyv18, zyv18, zyv131, zyv132, zyv133, zyv134, zyv135, zyv136, zyv137, zyv138, zyv139, zyv140, zyv141, zyv142, zyv143, zyv144, zyv145, zyv15, zyv13, zyv15, zyv15, zyv146, zyv147, zyv148])
noncomputable def zyr721 : List zC := [zyc46, zyc46, zyc47, zyc48, zyc10, zyc11, zyc10, zyc12, zyc49, zyc14, zyc15, zyc50, zyc14, zyc15, zyc800, zyc52]
noncomputable def zyh911 : zH := (126, [zyr0, zyr1, zyr2, zyr3, zyr4, zyr721, zyr6, zyr7], zym101)
noncomputable def zyc801 : zC := .inr (8, [zyv114, zyv157, zyv27, zyv25, zyv115, zyv116, zyv117, zyv118, zyv126, zyv119, zyv25, zyv126, zyv120, zyv35, zyv319, zyv35, zyv122, zyv123, zyv124, zyv125, zyv35, zyv126, zyv127, zyv128, zyv13, zyv129, zyv130, zyv18, zyv18, zyv131, zyv132, zyv133, zyv134, zyv135, zyv136, zyv137, zyv138, zyv139, zyv140, zyv141, zyv142, zyv143, zyv144, zyv145, zyv15, zyv13, zyv15, zyv15, zyv146, zyv147, zyv148])
noncomputable def zyr722 : List zC := [zyc46, zyc46, zyc47, zyc48, zyc10, zyc11, zyc10, zyc12, zyc49, zyc14, zyc15, zyc50, zyc14, zyc15, zyc801, zyc52]
noncomputable def zyh912 : zH := (126, [zyr0, zyr1, zyr2, zyr3, zyr4, zyr722, zyr6, zyr7], zym101)
noncomputable def zyc802 : zC := .inr (8, [zyv114, zyv158, zyv27, zyv25, zyv115, zyv116, zyv117, zyv118, zyv126, zyv119, zyv25, zyv126, zyv120, zyv35, zyv319, zyv35, zyv122, zyv123, zyv124, zyv125, zyv35, zyv126, zyv127, zyv128, zyv13, zyv129, zyv130, zyv18, zyv18, zyv131, zyv132, zyv133, zyv134, zyv135, zyv136, zyv137, zyv138, zyv139, zyv140, zyv141, zyv142, zyv143, zyv144, zyv145, zyv15, zyv13, zyv15, zyv15, zyv146, zyv147, zyv148])
noncomputable def zyr723 : List zC := [zyc46, zyc46, zyc47, zyc48, zyc10, zyc11, zyc10, zyc12, zyc49, zyc14, zyc15, zyc50, zyc14, zyc15, zyc802, zyc52]
noncomputable def zyh913 : zH := (126, [zyr0, zyr1, zyr2, zyr3, zyr4, zyr723, zyr6, zyr7], zym101)
noncomputable def zyc803 : zC := .inr (8, [zyv114, zyv159, zyv27, zyv25, zyv115, zyv116, zyv117, zyv118, zyv126, zyv119, zyv25, zyv126, zyv120, zyv35, zyv319, zyv35, zyv122, zyv123, zyv124, zyv125, zyv35, zyv126, zyv127, zyv128, zyv13, zyv129, zyv130, zyv18, zyv18, zyv131, zyv132, zyv133, zyv134, zyv135, zyv136, zyv137, zyv138, zyv139, zyv140, zyv141, zyv142, zyv143, zyv144, zyv145, zyv15, zyv13, zyv15, zyv15, zyv146, zyv147, zyv148])
noncomputable def zyr724 : List zC := [zyc46, zyc46, zyc47, zyc48, zyc10, zyc11, zyc10, zyc12, zyc49, zyc14, zyc15, zyc50, zyc14, zyc15, zyc803, zyc52]
noncomputable def zyh914 : zH := (126, [zyr0, zyr1, zyr2, zyr3, zyr4, zyr724, zyr6, zyr7], zym101)
noncomputable def zyc804 : zC := .inr (8, [zyv114, zyv160, zyv27, zyv25, zyv115, zyv116, zyv117, zyv118, zyv126, zyv119, zyv25, zyv126, zyv120, zyv35, zyv319, zyv35, zyv122, zyv123, zyv124, zyv125, zyv35, zyv126, zyv127, zyv128, zyv13, zyv129, zyv130, zyv18, zyv18, zyv131, zyv132, zyv133, zyv134, zyv135, zyv136, zyv137, zyv138, zyv139, zyv140, zyv141, zyv142, zyv143, zyv144, zyv145, zyv15, zyv13, zyv15, zyv15, zyv146, zyv147, zyv148])
noncomputable def zyr725 : List zC := [zyc46, zyc46, zyc47, zyc48, zyc10, zyc11, zyc10, zyc12, zyc49, zyc14, zyc15, zyc50, zyc14, zyc15, zyc804, zyc52]
noncomputable def zyh915 : zH := (126, [zyr0, zyr1, zyr2, zyr3, zyr4, zyr725, zyr6, zyr7], zym101)
noncomputable def zyc805 : zC := .inr (8, [zyv114, zyv161, zyv27, zyv25, zyv115, zyv116, zyv117, zyv118, zyv126, zyv119, zyv25, zyv126, zyv120, zyv35, zyv319, zyv35, zyv122, zyv123, zyv124, zyv125, zyv35, zyv126, zyv127, zyv128, zyv13, zyv129, zyv130, zyv18, zyv18, zyv131, zyv132, zyv133, zyv134, zyv135, zyv136, zyv137, zyv138, zyv139, zyv140, zyv141, zyv142, zyv143, zyv144, zyv145, zyv15, zyv13, zyv15, zyv15, zyv146, zyv147, zyv148])
noncomputable def zyr726 : List zC := [zyc46, zyc46, zyc47, zyc48, zyc10, zyc11, zyc10, zyc12, zyc49, zyc14, zyc15, zyc50, zyc14, zyc15, zyc805, zyc52]
noncomputable def zyh916 : zH := (126, [zyr0, zyr1, zyr2, zyr3, zyr4, zyr726, zyr6, zyr7], zym101)
noncomputable def zyc806 : zC := .inr (8, [zyv114, zyv162, zyv27, zyv25, zyv115, zyv116, zyv117, zyv118, zyv126, zyv119, zyv25, zyv126, zyv120, zyv35, zyv319, zyv35, zyv122, zyv123, zyv124, zyv125, zyv35, zyv126, zyv127, zyv128, zyv13, zyv129, zyv130, zyv18, zyv18, zyv131, zyv132, zyv133, zyv134, zyv135, zyv136, zyv137, zyv138, zyv139, zyv140, zyv141, zyv142, zyv143, zyv144, zyv145, zyv15, zyv13, zyv15, zyv15, zyv146, zyv147, zyv148])
noncomputable def zyr727 : List zC := [zyc46, zyc46, zyc47, zyc48, zyc10, zyc11, zyc10, zyc12, zyc49, zyc14, zyc15, zyc50, zyc14, zyc15, zyc806, zyc52]
noncomputable def zyh917 : zH := (126, [zyr0, zyr1, zyr2, zyr3, zyr4, zyr727, zyr6, zyr7], zym101)
noncomputable def zyc807 : zC := .inr (8, [zyv114, zyv163, zyv27, zyv25, zyv115, zyv116, zyv117, zyv118, zyv126, zyv119, zyv25, zyv126, zyv120, zyv35, zyv319, zyv35, zyv122, zyv123, zyv124, zyv125, zyv35, zyv126, zyv127, zyv128, zyv13, zyv129, zyv130, zyv18, zyv18, zyv131, zyv132, zyv133, zyv134, zyv135, zyv136, zyv137, zyv138, zyv139, zyv140, zyv141, zyv142, zyv143, zyv144, zyv145, zyv15, zyv13, zyv15, zyv15, zyv146, zyv147, zyv148])
noncomputable def zyr728 : List zC := [zyc46, zyc46, zyc47, zyc48, zyc10, zyc11, zyc10, zyc12, zyc49, zyc14, zyc15, zyc50, zyc14, zyc15, zyc807, zyc52]
noncomputable def zyh918 : zH := (126, [zyr0, zyr1, zyr2, zyr3, zyr4, zyr728, zyr6, zyr7], zym101)
noncomputable def zyc808 : zC := .inr (8, [zyv114, zyv164, zyv27, zyv25, zyv115, zyv116, zyv117, zyv118, zyv126, zyv119, zyv25, zyv126, zyv120, zyv35, zyv319, zyv35, zyv122, zyv123, zyv124, zyv125, zyv35, zyv126, zyv127, zyv128, zyv13, zyv129, zyv130, zyv18, zyv18, zyv131, zyv132, zyv133, zyv134, zyv135, zyv136, zyv137, zyv138, zyv139, zyv140, zyv141, zyv142, zyv143, zyv144, zyv145, zyv15, zyv13, zyv15, zyv15, zyv146, zyv147, zyv148])
noncomputable def zyr729 : List zC := [zyc46, zyc46, zyc47, zyc48, zyc10, zyc11, zyc10, zyc12, zyc49, zyc14, zyc15, zyc50, zyc14, zyc15, zyc808, zyc52]
noncomputable def zyh919 : zH := (126, [zyr0, zyr1, zyr2, zyr3, zyr4, zyr729, zyr6, zyr7], zym101)
noncomputable def zyc809 : zC := .inr (8, [zyv120, zyv15, zyv15, zyv15, zyv120, zyv120, zyv120, zyv120, zyv15, zyv120, zyv15, zyv15, zyv125, zyv17, zyv319, zyv35, zyv122, zyv120, zyv120, zyv120, zyv15, zyv36, zyv127, zyv120, zyv15, zyv120, zyv120, zyv15, zyv15, zyv120, zyv120, zyv120, zyv120, zyv120, zyv120, zyv120, zyv120, zyv120, zyv120, zyv15, zyv120, zyv120, zyv120, zyv120, zyv15, zyv15, zyv15, zyv15, zyv120, zyv120, zyv120])
noncomputable def zyr730 : List zC := [zyc248, zyc248, zyc248, zyc240, zyc10, zyc10, zyc10, zyc12, zyc241, zyc8, zyc8, zyc241, zyc8, zyc8, zyc809, zyc250]
noncomputable def zyh920 : zH := (126, [zyr178, zyr179, zyr180, zyr181, zyr182, zyr730, zyr184, zyr185], 0)
noncomputable def zyh921 : zH := (126, [zyr178, zyr179, zyr180, zyr181, zyr182, zyr730, zyr184, zyr185], zym9)
noncomputable def zyc810 : zC := .inr (8, [zyv120, zyv15, zyv15, zyv15, zyv120, zyv120, zyv120, zyv120, zyv15, zyv120, zyv15, zyv15, zyv125, zyv17, zyv319, zyv322, zyv166, zyv120, zyv120, zyv120, zyv15, zyv36, zyv127, zyv120, zyv15, zyv120, zyv120, zyv15, zyv15, zyv120, zyv120, zyv120, zyv120, zyv120, zyv120, zyv120, zyv120, zyv120, zyv120, zyv15, zyv120, zyv120, zyv120, zyv120, zyv15, zyv15, zyv15, zyv15, zyv120, zyv120, zyv120])
noncomputable def zyr731 : List zC := [zyc248, zyc248, zyc248, zyc240, zyc10, zyc10, zyc10, zyc12, zyc241, zyc8, zyc8, zyc241, zyc8, zyc8, zyc810, zyc250]
noncomputable def zyh922 : zH := (126, [zyr178, zyr179, zyr180, zyr181, zyr182, zyr731, zyr184, zyr185], zym9)
noncomputable def zyc811 : zC := .inr (8, [zyv120, zyv15, zyv15, zyv15, zyv120, zyv120, zyv120, zyv120, zyv15, zyv120, zyv15, zyv15, zyv125, zyv17, zyv319, zyv322, zyv122, zyv120, zyv120, zyv120, zyv15, zyv36, zyv127, zyv120, zyv15, zyv120, zyv120, zyv15, zyv15, zyv120, zyv120, zyv120, zyv120, zyv120, zyv120, zyv120, zyv120, zyv120, zyv120, zyv15, zyv120, zyv120, zyv120, zyv120, zyv15, zyv15, zyv15, zyv15, zyv120, zyv120, zyv120])
noncomputable def zyr732 : List zC := [zyc248, zyc248, zyc248, zyc240, zyc10, zyc10, zyc10, zyc12, zyc241, zyc8, zyc8, zyc241, zyc8, zyc8, zyc811, zyc250]
noncomputable def zyh923 : zH := (126, [zyr178, zyr179, zyr180, zyr181, zyr182, zyr732, zyr184, zyr185], 0)
noncomputable def zyh924 : zH := (126, [zyr178, zyr179, zyr180, zyr181, zyr182, zyr732, zyr184, zyr185], zym9)
noncomputable def zyc812 : zC := .inr (8, [zyv120, zyv15, zyv15, zyv15, zyv120, zyv120, zyv120, zyv120, zyv15, zyv120, zyv15, zyv15, zyv125, zyv17, zyv319, zyv324, zyv166, zyv120, zyv120, zyv120, zyv15, zyv36, zyv127, zyv120, zyv15, zyv120, zyv120, zyv15, zyv15, zyv120, zyv120, zyv120, zyv120, zyv120, zyv120, zyv120, zyv120, zyv120, zyv120, zyv15, zyv120, zyv120, zyv120, zyv120, zyv15, zyv15, zyv15, zyv15, zyv120, zyv120, zyv120])
noncomputable def zyr733 : List zC := [zyc248, zyc248, zyc248, zyc240, zyc10, zyc10, zyc10, zyc12, zyc241, zyc8, zyc8, zyc241, zyc8, zyc8, zyc812, zyc250]
noncomputable def zyh925 : zH := (126, [zyr178, zyr179, zyr180, zyr181, zyr182, zyr733, zyr184, zyr185], zym9)
noncomputable def zyc813 : zC := .inr (8, [zyv120, zyv15, zyv15, zyv15, zyv120, zyv120, zyv120, zyv120, zyv15, zyv120, zyv15, zyv15, zyv125, zyv17, zyv319, zyv324, zyv122, zyv120, zyv120, zyv120, zyv15, zyv36, zyv127, zyv120, zyv15, zyv120, zyv120, zyv15, zyv15, zyv120, zyv120, zyv120, zyv120, zyv120, zyv120, zyv120, zyv120, zyv120, zyv120, zyv15, zyv120, zyv120, zyv120, zyv120, zyv15, zyv15, zyv15, zyv15, zyv120, zyv120, zyv120])
noncomputable def zyr734 : List zC := [zyc248, zyc248, zyc248, zyc240, zyc10, zyc10, zyc10, zyc12, zyc241, zyc8, zyc8, zyc241, zyc8, zyc8, zyc813, zyc250]
noncomputable def zyh926 : zH := (126, [zyr178, zyr179, zyr180, zyr181, zyr182, zyr734, zyr184, zyr185], 0)
noncomputable def zyh927 : zH := (126, [zyr178, zyr179, zyr180, zyr181, zyr182, zyr734, zyr184, zyr185], zym9)
noncomputable def zyc814 : zC := .inr (8, [zyv120, zyv15, zyv15, zyv15, zyv120, zyv120, zyv120, zyv120, zyv15, zyv120, zyv15, zyv15, zyv125, zyv17, zyv319, zyv325, zyv166, zyv120, zyv120, zyv120, zyv15, zyv36, zyv127, zyv120, zyv15, zyv120, zyv120, zyv15, zyv15, zyv120, zyv120, zyv120, zyv120, zyv120, zyv120, zyv120, zyv120, zyv120, zyv120, zyv15, zyv120, zyv120, zyv120, zyv120, zyv15, zyv15, zyv15, zyv15, zyv120, zyv120, zyv120])
noncomputable def zyr735 : List zC := [zyc248, zyc248, zyc248, zyc240, zyc10, zyc10, zyc10, zyc12, zyc241, zyc8, zyc8, zyc241, zyc8, zyc8, zyc814, zyc250]
noncomputable def zyh928 : zH := (126, [zyr178, zyr179, zyr180, zyr181, zyr182, zyr735, zyr184, zyr185], zym9)
noncomputable def zyc815 : zC := .inr (8, [zyv120, zyv15, zyv15, zyv15, zyv120, zyv120, zyv120, zyv120, zyv15, zyv120, zyv15, zyv15, zyv125, zyv17, zyv319, zyv325, zyv122, zyv120, zyv120, zyv120, zyv15, zyv36, zyv127, zyv120, zyv15, zyv120, zyv120, zyv15, zyv15, zyv120, zyv120, zyv120, zyv120, zyv120, zyv120, zyv120, zyv120, zyv120, zyv120, zyv15, zyv120, zyv120, zyv120, zyv120, zyv15, zyv15, zyv15, zyv15, zyv120, zyv120, zyv120])
noncomputable def zyr736 : List zC := [zyc248, zyc248, zyc248, zyc240, zyc10, zyc10, zyc10, zyc12, zyc241, zyc8, zyc8, zyc241, zyc8, zyc8, zyc815, zyc250]
noncomputable def zyh929 : zH := (126, [zyr178, zyr179, zyr180, zyr181, zyr182, zyr736, zyr184, zyr185], 0)
noncomputable def zyh930 : zH := (126, [zyr178, zyr179, zyr180, zyr181, zyr182, zyr736, zyr184, zyr185], zym9)
noncomputable def zyc816 : zC := .inr (8, [zyv120, zyv15, zyv15, zyv15, zyv120, zyv120, zyv120, zyv120, zyv15, zyv120, zyv15, zyv15, zyv125, zyv17, zyv319, zyv326, zyv166, zyv120, zyv120, zyv120, zyv15, zyv36, zyv127, zyv120, zyv15, zyv120, zyv120, zyv15, zyv15, zyv120, zyv120, zyv120, zyv120, zyv120, zyv120, zyv120, zyv120, zyv120, zyv120, zyv15, zyv120, zyv120, zyv120, zyv120, zyv15, zyv15, zyv15, zyv15, zyv120, zyv120, zyv120])
noncomputable def zyr737 : List zC := [zyc248, zyc248, zyc248, zyc240, zyc10, zyc10, zyc10, zyc12, zyc241, zyc8, zyc8, zyc241, zyc8, zyc8, zyc816, zyc250]
noncomputable def zyh931 : zH := (126, [zyr178, zyr179, zyr180, zyr181, zyr182, zyr737, zyr184, zyr185], zym9)
noncomputable def zyc817 : zC := .inr (8, [zyv120, zyv15, zyv15, zyv15, zyv120, zyv120, zyv120, zyv120, zyv15, zyv120, zyv15, zyv15, zyv125, zyv17, zyv319, zyv326, zyv122, zyv120, zyv120, zyv120, zyv15, zyv36, zyv127, zyv120, zyv15, zyv120, zyv120, zyv15, zyv15, zyv120, zyv120, zyv120, zyv120, zyv120, zyv120, zyv120, zyv120, zyv120, zyv120, zyv15, zyv120, zyv120, zyv120, zyv120, zyv15, zyv15, zyv15, zyv15, zyv120, zyv120, zyv120])
noncomputable def zyr738 : List zC := [zyc248, zyc248, zyc248, zyc240, zyc10, zyc10, zyc10, zyc12, zyc241, zyc8, zyc8, zyc241, zyc8, zyc8, zyc817, zyc250]
noncomputable def zyh932 : zH := (126, [zyr178, zyr179, zyr180, zyr181, zyr182, zyr738, zyr184, zyr185], 0)
noncomputable def zyh933 : zH := (126, [zyr178, zyr179, zyr180, zyr181, zyr182, zyr738, zyr184, zyr185], zym9)
noncomputable def zyc818 : zC := .inr (8, [zyv120, zyv15, zyv15, zyv15, zyv120, zyv120, zyv120, zyv120, zyv15, zyv120, zyv15, zyv15, zyv125, zyv17, zyv319, zyv327, zyv166, zyv120, zyv120, zyv120, zyv15, zyv36, zyv127, zyv120, zyv15, zyv120, zyv120, zyv15, zyv15, zyv120, zyv120, zyv120, zyv120, zyv120, zyv120, zyv120, zyv120, zyv120, zyv120, zyv15, zyv120, zyv120, zyv120, zyv120, zyv15, zyv15, zyv15, zyv15, zyv120, zyv120, zyv120])
noncomputable def zyr739 : List zC := [zyc248, zyc248, zyc248, zyc240, zyc10, zyc10, zyc10, zyc12, zyc241, zyc8, zyc8, zyc241, zyc8, zyc8, zyc818, zyc250]
noncomputable def zyh934 : zH := (126, [zyr178, zyr179, zyr180, zyr181, zyr182, zyr739, zyr184, zyr185], zym9)
noncomputable def zyc819 : zC := .inr (8, [zyv120, zyv15, zyv15, zyv15, zyv120, zyv120, zyv120, zyv120, zyv15, zyv120, zyv15, zyv15, zyv125, zyv17, zyv319, zyv327, zyv122, zyv120, zyv120, zyv120, zyv15, zyv36, zyv127, zyv120, zyv15, zyv120, zyv120, zyv15, zyv15, zyv120, zyv120, zyv120, zyv120, zyv120, zyv120, zyv120, zyv120, zyv120, zyv120, zyv15, zyv120, zyv120, zyv120, zyv120, zyv15, zyv15, zyv15, zyv15, zyv120, zyv120, zyv120])
noncomputable def zyr740 : List zC := [zyc248, zyc248, zyc248, zyc240, zyc10, zyc10, zyc10, zyc12, zyc241, zyc8, zyc8, zyc241, zyc8, zyc8, zyc819, zyc250]
noncomputable def zyh935 : zH := (126, [zyr178, zyr179, zyr180, zyr181, zyr182, zyr740, zyr184, zyr185], 0)
noncomputable def zyh936 : zH := (126, [zyr178, zyr179, zyr180, zyr181, zyr182, zyr740, zyr184, zyr185], zym9)
noncomputable def zyc820 : zC := .inr (8, [zyv120, zyv15, zyv15, zyv15, zyv120, zyv120, zyv120, zyv120, zyv15, zyv120, zyv15, zyv15, zyv125, zyv17, zyv319, zyv328, zyv166, zyv120, zyv120, zyv120, zyv15, zyv36, zyv127, zyv120, zyv15, zyv120, zyv120, zyv15, zyv15, zyv120, zyv120, zyv120, zyv120, zyv120, zyv120, zyv120, zyv120, zyv120, zyv120, zyv15, zyv120, zyv120, zyv120, zyv120, zyv15, zyv15, zyv15, zyv15, zyv120, zyv120, zyv120])
noncomputable def zyr741 : List zC := [zyc248, zyc248, zyc248, zyc240, zyc10, zyc10, zyc10, zyc12, zyc241, zyc8, zyc8, zyc241, zyc8, zyc8, zyc820, zyc250]
noncomputable def zyh937 : zH := (126, [zyr178, zyr179, zyr180, zyr181, zyr182, zyr741, zyr184, zyr185], zym9)
noncomputable def zyc821 : zC := .inr (8, [zyv120, zyv15, zyv15, zyv15, zyv120, zyv120, zyv120, zyv120, zyv15, zyv120, zyv15, zyv15, zyv125, zyv17, zyv319, zyv328, zyv122, zyv120, zyv120, zyv120, zyv15, zyv36, zyv127, zyv120, zyv15, zyv120, zyv120, zyv15, zyv15, zyv120, zyv120, zyv120, zyv120, zyv120, zyv120, zyv120, zyv120, zyv120, zyv120, zyv15, zyv120, zyv120, zyv120, zyv120, zyv15, zyv15, zyv15, zyv15, zyv120, zyv120, zyv120])
noncomputable def zyr742 : List zC := [zyc248, zyc248, zyc248, zyc240, zyc10, zyc10, zyc10, zyc12, zyc241, zyc8, zyc8, zyc241, zyc8, zyc8, zyc821, zyc250]
noncomputable def zyh938 : zH := (126, [zyr178, zyr179, zyr180, zyr181, zyr182, zyr742, zyr184, zyr185], 0)
noncomputable def zyh939 : zH := (126, [zyr178, zyr179, zyr180, zyr181, zyr182, zyr742, zyr184, zyr185], zym9)
noncomputable def zyc822 : zC := .inr (8, [zyv120, zyv15, zyv15, zyv15, zyv120, zyv120, zyv120, zyv120, zyv15, zyv120, zyv15, zyv15, zyv125, zyv17, zyv319, zyv329, zyv166, zyv120, zyv120, zyv120, zyv15, zyv36, zyv127, zyv120, zyv15, zyv120, zyv120, zyv15, zyv15, zyv120, zyv120, zyv120, zyv120, zyv120, zyv120, zyv120, zyv120, zyv120, zyv120, zyv15, zyv120, zyv120, zyv120, zyv120, zyv15, zyv15, zyv15, zyv15, zyv120, zyv120, zyv120])
noncomputable def zyr743 : List zC := [zyc248, zyc248, zyc248, zyc240, zyc10, zyc10, zyc10, zyc12, zyc241, zyc8, zyc8, zyc241, zyc8, zyc8, zyc822, zyc250]
noncomputable def zyh940 : zH := (126, [zyr178, zyr179, zyr180, zyr181, zyr182, zyr743, zyr184, zyr185], zym9)
noncomputable def zyc823 : zC := .inr (8, [zyv120, zyv15, zyv15, zyv15, zyv120, zyv120, zyv120, zyv120, zyv15, zyv120, zyv15, zyv15, zyv125, zyv17, zyv319, zyv329, zyv122, zyv120, zyv120, zyv120, zyv15, zyv36, zyv127, zyv120, zyv15, zyv120, zyv120, zyv15, zyv15, zyv120, zyv120, zyv120, zyv120, zyv120, zyv120, zyv120, zyv120, zyv120, zyv120, zyv15, zyv120, zyv120, zyv120, zyv120, zyv15, zyv15, zyv15, zyv15, zyv120, zyv120, zyv120])
noncomputable def zyr744 : List zC := [zyc248, zyc248, zyc248, zyc240, zyc10, zyc10, zyc10, zyc12, zyc241, zyc8, zyc8, zyc241, zyc8, zyc8, zyc823, zyc250]
noncomputable def zyh941 : zH := (126, [zyr178, zyr179, zyr180, zyr181, zyr182, zyr744, zyr184, zyr185], 0)
noncomputable def zyh942 : zH := (126, [zyr178, zyr179, zyr180, zyr181, zyr182, zyr744, zyr184, zyr185], zym9)
noncomputable def zyc824 : zC := .inr (8, [zyv120, zyv15, zyv15, zyv15, zyv120, zyv120, zyv120, zyv120, zyv15, zyv120, zyv15, zyv15, zyv125, zyv17, zyv319, zyv330, zyv166, zyv120, zyv120, zyv120, zyv15, zyv36, zyv127, zyv120, zyv15, zyv120, zyv120, zyv15, zyv15, zyv120, zyv120, zyv120, zyv120, zyv120, zyv120, zyv120, zyv120, zyv120, zyv120, zyv15, zyv120, zyv120, zyv120, zyv120, zyv15, zyv15, zyv15, zyv15, zyv120, zyv120, zyv120])
noncomputable def zyr745 : List zC := [zyc248, zyc248, zyc248, zyc240, zyc10, zyc10, zyc10, zyc12, zyc241, zyc8, zyc8, zyc241, zyc8, zyc8, zyc824, zyc250]
noncomputable def zyh943 : zH := (126, [zyr178, zyr179, zyr180, zyr181, zyr182, zyr745, zyr184, zyr185], zym9)
noncomputable def zyc825 : zC := .inr (8, [zyv120, zyv15, zyv15, zyv15, zyv120, zyv120, zyv120, zyv120, zyv15, zyv120, zyv15, zyv15, zyv125, zyv17, zyv319, zyv330, zyv122, zyv120, zyv120, zyv120, zyv15, zyv36, zyv127, zyv120, zyv15, zyv120, zyv120, zyv15, zyv15, zyv120, zyv120, zyv120, zyv120, zyv120, zyv120, zyv120, zyv120, zyv120, zyv120, zyv15, zyv120, zyv120, zyv120, zyv120, zyv15, zyv15, zyv15, zyv15, zyv120, zyv120, zyv120])
noncomputable def zyr746 : List zC := [zyc248, zyc248, zyc248, zyc240, zyc10, zyc10, zyc10, zyc12, zyc241, zyc8, zyc8, zyc241, zyc8, zyc8, zyc825, zyc250]
noncomputable def zyh944 : zH := (126, [zyr178, zyr179, zyr180, zyr181, zyr182, zyr746, zyr184, zyr185], 0)
noncomputable def zyh945 : zH := (126, [zyr178, zyr179, zyr180, zyr181, zyr182, zyr746, zyr184, zyr185], zym9)
noncomputable def zyc826 : zC := .inr (8, [zyv120, zyv15, zyv15, zyv15, zyv120, zyv120, zyv120, zyv120, zyv15, zyv120, zyv15, zyv15, zyv125, zyv17, zyv319, zyv331, zyv166, zyv120, zyv120, zyv120, zyv15, zyv36, zyv127, zyv120, zyv15, zyv120, zyv120, zyv15, zyv15, zyv120, zyv120, zyv120, zyv120, zyv120, zyv120, zyv120, zyv120, zyv120, zyv120, zyv15, zyv120, zyv120, zyv120, zyv120, zyv15, zyv15, zyv15, zyv15, zyv120, zyv120, zyv120])
noncomputable def zyr747 : List zC := [zyc248, zyc248, zyc248, zyc240, zyc10, zyc10, zyc10, zyc12, zyc241, zyc8, zyc8, zyc241, zyc8, zyc8, zyc826, zyc250]
noncomputable def zyh946 : zH := (126, [zyr178, zyr179, zyr180, zyr181, zyr182, zyr747, zyr184, zyr185], zym9)
noncomputable def zyc827 : zC := .inr (8, [zyv120, zyv15, zyv15, zyv15, zyv120, zyv120, zyv120, zyv120, zyv15, zyv120, zyv15, zyv15, zyv125, zyv17, zyv319, zyv331, zyv122, zyv120, zyv120, zyv120, zyv15, zyv36, zyv127, zyv120, zyv15, zyv120, zyv120, zyv15, zyv15, zyv120, zyv120, zyv120, zyv120, zyv120, zyv120, zyv120, zyv120, zyv120, zyv120, zyv15, zyv120, zyv120, zyv120, zyv120, zyv15, zyv15, zyv15, zyv15, zyv120, zyv120, zyv120])
noncomputable def zyr748 : List zC := [zyc248, zyc248, zyc248, zyc240, zyc10, zyc10, zyc10, zyc12, zyc241, zyc8, zyc8, zyc241, zyc8, zyc8, zyc827, zyc250]
noncomputable def zyh947 : zH := (126, [zyr178, zyr179, zyr180, zyr181, zyr182, zyr748, zyr184, zyr185], 0)
noncomputable def zyh948 : zH := (126, [zyr178, zyr179, zyr180, zyr181, zyr182, zyr748, zyr184, zyr185], zym9)
noncomputable def zyc828 : zC := .inr (8, [zyv120, zyv15, zyv15, zyv15, zyv120, zyv120, zyv120, zyv120, zyv15, zyv120, zyv15, zyv15, zyv125, zyv17, zyv319, zyv332, zyv166, zyv120, zyv120, zyv120, zyv15, zyv36, zyv127, zyv120, zyv15, zyv120, zyv120, zyv15, zyv15, zyv120, zyv120, zyv120, zyv120, zyv120, zyv120, zyv120, zyv120, zyv120, zyv120, zyv15, zyv120, zyv120, zyv120, zyv120, zyv15, zyv15, zyv15, zyv15, zyv120, zyv120, zyv120])
noncomputable def zyr749 : List zC := [zyc248, zyc248, zyc248, zyc240, zyc10, zyc10, zyc10, zyc12, zyc241, zyc8, zyc8, zyc241, zyc8, zyc8, zyc828, zyc250]
noncomputable def zyh949 : zH := (126, [zyr178, zyr179, zyr180, zyr181, zyr182, zyr749, zyr184, zyr185], zym9)
noncomputable def zyc829 : zC := .inr (8, [zyv120, zyv15, zyv15, zyv15, zyv120, zyv120, zyv120, zyv120, zyv15, zyv120, zyv15, zyv15, zyv125, zyv17, zyv319, zyv333, zyv122, zyv120, zyv120, zyv120, zyv15, zyv36, zyv127, zyv120, zyv15, zyv120, zyv120, zyv15, zyv15, zyv120, zyv120, zyv120, zyv120, zyv120, zyv120, zyv120, zyv120, zyv120, zyv120, zyv15, zyv120, zyv120, zyv120, zyv120, zyv15, zyv15, zyv15, zyv15, zyv120, zyv120, zyv120])
noncomputable def zyr750 : List zC := [zyc248, zyc248, zyc248, zyc240, zyc10, zyc10, zyc10, zyc12, zyc241, zyc8, zyc8, zyc241, zyc8, zyc8, zyc829, zyc250]
noncomputable def zyh950 : zH := (126, [zyr178, zyr179, zyr180, zyr181, zyr182, zyr750, zyr184, zyr185], 0)
noncomputable def zyh951 : zH := (126, [zyr178, zyr179, zyr180, zyr181, zyr182, zyr750, zyr184, zyr185], zym9)
noncomputable def zyc830 : zC := .inr (8, [zyv120, zyv15, zyv15, zyv15, zyv120, zyv120, zyv120, zyv120, zyv15, zyv120, zyv15, zyv15, zyv125, zyv17, zyv319, zyv334, zyv166, zyv120, zyv120, zyv120, zyv15, zyv36, zyv127, zyv120, zyv15, zyv120, zyv120, zyv15, zyv15, zyv120, zyv120, zyv120, zyv120, zyv120, zyv120, zyv120, zyv120, zyv120, zyv120, zyv15, zyv120, zyv120, zyv120, zyv120, zyv15, zyv15, zyv15, zyv15, zyv120, zyv120, zyv120])
noncomputable def zyr751 : List zC := [zyc248, zyc248, zyc248, zyc240, zyc10, zyc10, zyc10, zyc12, zyc241, zyc8, zyc8, zyc241, zyc8, zyc8, zyc830, zyc250]
noncomputable def zyh952 : zH := (126, [zyr178, zyr179, zyr180, zyr181, zyr182, zyr751, zyr184, zyr185], zym9)
noncomputable def zyc831 : zC := .inr (8, [zyv120, zyv15, zyv15, zyv15, zyv120, zyv120, zyv120, zyv120, zyv15, zyv120, zyv15, zyv15, zyv125, zyv17, zyv319, zyv334, zyv122, zyv120, zyv120, zyv120, zyv15, zyv36, zyv127, zyv120, zyv15, zyv120, zyv120, zyv15, zyv15, zyv120, zyv120, zyv120, zyv120, zyv120, zyv120, zyv120, zyv120, zyv120, zyv120, zyv15, zyv120, zyv120, zyv120, zyv120, zyv15, zyv15, zyv15, zyv15, zyv120, zyv120, zyv120])
noncomputable def zyr752 : List zC := [zyc248, zyc248, zyc248, zyc240, zyc10, zyc10, zyc10, zyc12, zyc241, zyc8, zyc8, zyc241, zyc8, zyc8, zyc831, zyc250]
noncomputable def zyh953 : zH := (126, [zyr178, zyr179, zyr180, zyr181, zyr182, zyr752, zyr184, zyr185], 0)
noncomputable def zyh954 : zH := (126, [zyr178, zyr179, zyr180, zyr181, zyr182, zyr752, zyr184, zyr185], zym9)
noncomputable def zyc832 : zC := .inr (8, [zyv120, zyv15, zyv15, zyv15, zyv120, zyv120, zyv120, zyv120, zyv15, zyv120, zyv15, zyv15, zyv125, zyv17, zyv319, zyv335, zyv166, zyv120, zyv120, zyv120, zyv15, zyv36, zyv127, zyv120, zyv15, zyv120, zyv120, zyv15, zyv15, zyv120, zyv120, zyv120, zyv120, zyv120, zyv120, zyv120, zyv120, zyv120, zyv120, zyv15, zyv120, zyv120, zyv120, zyv120, zyv15, zyv15, zyv15, zyv15, zyv120, zyv120, zyv120])
noncomputable def zyr753 : List zC := [zyc248, zyc248, zyc248, zyc240, zyc10, zyc10, zyc10, zyc12, zyc241, zyc8, zyc8, zyc241, zyc8, zyc8, zyc832, zyc250]
noncomputable def zyh955 : zH := (126, [zyr178, zyr179, zyr180, zyr181, zyr182, zyr753, zyr184, zyr185], zym9)
noncomputable def zyc833 : zC := .inr (8, [zyv120, zyv15, zyv15, zyv15, zyv120, zyv120, zyv120, zyv120, zyv15, zyv120, zyv15, zyv15, zyv125, zyv17, zyv319, zyv335, zyv122, zyv120, zyv120, zyv120, zyv15, zyv36, zyv127, zyv120, zyv15, zyv120, zyv120, zyv15, zyv15, zyv120, zyv120, zyv120, zyv120, zyv120, zyv120, zyv120, zyv120, zyv120, zyv120, zyv15, zyv120, zyv120, zyv120, zyv120, zyv15, zyv15, zyv15, zyv15, zyv120, zyv120, zyv120])
noncomputable def zyr754 : List zC := [zyc248, zyc248, zyc248, zyc240, zyc10, zyc10, zyc10, zyc12, zyc241, zyc8, zyc8, zyc241, zyc8, zyc8, zyc833, zyc250]
noncomputable def zyh956 : zH := (126, [zyr178, zyr179, zyr180, zyr181, zyr182, zyr754, zyr184, zyr185], 0)
noncomputable def zyh957 : zH := (126, [zyr178, zyr179, zyr180, zyr181, zyr182, zyr754, zyr184, zyr185], zym9)
noncomputable def zyc834 : zC := .inr (8, [zyv120, zyv15, zyv15, zyv15, zyv120, zyv120, zyv120, zyv120, zyv15, zyv120, zyv15, zyv15, zyv125, zyv17, zyv319, zyv336, zyv166, zyv120, zyv120, zyv120, zyv15, zyv36, zyv127, zyv120, zyv15, zyv120, zyv120, zyv15, zyv15, zyv120, zyv120, zyv120, zyv120, zyv120, zyv120, zyv120, zyv120, zyv120, zyv120, zyv15, zyv120, zyv120, zyv120, zyv120, zyv15, zyv15, zyv15, zyv15, zyv120, zyv120, zyv120])
noncomputable def zyr755 : List zC := [zyc248, zyc248, zyc248, zyc240, zyc10, zyc10, zyc10, zyc12, zyc241, zyc8, zyc8, zyc241, zyc8, zyc8, zyc834, zyc250]
noncomputable def zyh958 : zH := (126, [zyr178, zyr179, zyr180, zyr181, zyr182, zyr755, zyr184, zyr185], zym9)
noncomputable def zyc835 : zC := .inr (8, [zyv120, zyv15, zyv15, zyv15, zyv120, zyv120, zyv120, zyv120, zyv15, zyv120, zyv15, zyv15, zyv125, zyv17, zyv319, zyv336, zyv122, zyv120, zyv120, zyv120, zyv15, zyv36, zyv127, zyv120, zyv15, zyv120, zyv120, zyv15, zyv15, zyv120, zyv120, zyv120, zyv120, zyv120, zyv120, zyv120, zyv120, zyv120, zyv120, zyv15, zyv120, zyv120, zyv120, zyv120, zyv15, zyv15, zyv15, zyv15, zyv120, zyv120, zyv120])
noncomputable def zyr756 : List zC := [zyc248, zyc248, zyc248, zyc240, zyc10, zyc10, zyc10, zyc12, zyc241, zyc8, zyc8, zyc241, zyc8, zyc8, zyc835, zyc250]
noncomputable def zyh959 : zH := (126, [zyr178, zyr179, zyr180, zyr181, zyr182, zyr756, zyr184, zyr185], 0)
noncomputable def zyh960 : zH := (126, [zyr178, zyr179, zyr180, zyr181, zyr182, zyr756, zyr184, zyr185], zym9)
noncomputable def zyc836 : zC := .inr (8, [zyv120, zyv15, zyv15, zyv15, zyv120, zyv120, zyv120, zyv120, zyv15, zyv120, zyv15, zyv15, zyv125, zyv17, zyv319, zyv337, zyv166, zyv120, zyv120, zyv120, zyv15, zyv36, zyv127, zyv120, zyv15, zyv120, zyv120, zyv15, zyv15, zyv120, zyv120, zyv120, zyv120, zyv120, zyv120, zyv120, zyv120, zyv120, zyv120, zyv15, zyv120, zyv120, zyv120, zyv120, zyv15, zyv15, zyv15, zyv15, zyv120, zyv120, zyv120])
noncomputable def zyr757 : List zC := [zyc248, zyc248, zyc248, zyc240, zyc10, zyc10, zyc10, zyc12, zyc241, zyc8, zyc8, zyc241, zyc8, zyc8, zyc836, zyc250]
noncomputable def zyh961 : zH := (126, [zyr178, zyr179, zyr180, zyr181, zyr182, zyr757, zyr184, zyr185], zym9)
noncomputable def zyc837 : zC := .inr (8, [zyv120, zyv15, zyv15, zyv15, zyv120, zyv120, zyv120, zyv120, zyv15, zyv120, zyv15, zyv15, zyv125, zyv17, zyv319, zyv337, zyv122, zyv120, zyv120, zyv120, zyv15, zyv36, zyv127, zyv120, zyv15, zyv120, zyv120, zyv15, zyv15, zyv120, zyv120, zyv120, zyv120, zyv120, zyv120, zyv120, zyv120, zyv120, zyv120, zyv15, zyv120, zyv120, zyv120, zyv120, zyv15, zyv15, zyv15, zyv15, zyv120, zyv120, zyv120])
noncomputable def zyr758 : List zC := [zyc248, zyc248, zyc248, zyc240, zyc10, zyc10, zyc10, zyc12, zyc241, zyc8, zyc8, zyc241, zyc8, zyc8, zyc837, zyc250]
noncomputable def zyh962 : zH := (126, [zyr178, zyr179, zyr180, zyr181, zyr182, zyr758, zyr184, zyr185], 0)
noncomputable def zyh963 : zH := (126, [zyr178, zyr179, zyr180, zyr181, zyr182, zyr758, zyr184, zyr185], zym9)
noncomputable def zyc838 : zC := .inr (8, [zyv120, zyv15, zyv15, zyv15, zyv120, zyv120, zyv120, zyv120, zyv15, zyv120, zyv15, zyv15, zyv125, zyv17, zyv319, zyv338, zyv166, zyv120, zyv120, zyv120, zyv15, zyv36, zyv127, zyv120, zyv15, zyv120, zyv120, zyv15, zyv15, zyv120, zyv120, zyv120, zyv120, zyv120, zyv120, zyv120, zyv120, zyv120, zyv120, zyv15, zyv120, zyv120, zyv120, zyv120, zyv15, zyv15, zyv15, zyv15, zyv120, zyv120, zyv120])
noncomputable def zyr759 : List zC := [zyc248, zyc248, zyc248, zyc240, zyc10, zyc10, zyc10, zyc12, zyc241, zyc8, zyc8, zyc241, zyc8, zyc8, zyc838, zyc250]
noncomputable def zyh964 : zH := (126, [zyr178, zyr179, zyr180, zyr181, zyr182, zyr759, zyr184, zyr185], zym9)
noncomputable def zyc839 : zC := .inr (8, [zyv120, zyv15, zyv15, zyv15, zyv120, zyv120, zyv120, zyv120, zyv15, zyv120, zyv15, zyv15, zyv125, zyv17, zyv319, zyv338, zyv122, zyv120, zyv120, zyv120, zyv15, zyv36, zyv127, zyv120, zyv15, zyv120, zyv120, zyv15, zyv15, zyv120, zyv120, zyv120, zyv120, zyv120, zyv120, zyv120, zyv120, zyv120, zyv120, zyv15, zyv120, zyv120, zyv120, zyv120, zyv15, zyv15, zyv15, zyv15, zyv120, zyv120, zyv120])
noncomputable def zyr760 : List zC := [zyc248, zyc248, zyc248, zyc240, zyc10, zyc10, zyc10, zyc12, zyc241, zyc8, zyc8, zyc241, zyc8, zyc8, zyc839, zyc250]
noncomputable def zyh965 : zH := (126, [zyr178, zyr179, zyr180, zyr181, zyr182, zyr760, zyr184, zyr185], 0)
noncomputable def zyh966 : zH := (126, [zyr178, zyr179, zyr180, zyr181, zyr182, zyr760, zyr184, zyr185], zym9)
noncomputable def zyc840 : zC := .inr (8, [zyv120, zyv15, zyv15, zyv15, zyv120, zyv120, zyv120, zyv120, zyv15, zyv120, zyv15, zyv15, zyv125, zyv17, zyv319, zyv339, zyv166, zyv120, zyv120, zyv120, zyv15, zyv36, zyv127, zyv120, zyv15, zyv120, zyv120, zyv15, zyv15, zyv120, zyv120, zyv120, zyv120, zyv120, zyv120, zyv120, zyv120, zyv120, zyv120, zyv15, zyv120, zyv120, zyv120, zyv120, zyv15, zyv15, zyv15, zyv15, zyv120, zyv120, zyv120])
noncomputable def zyr761 : List zC := [zyc248, zyc248, zyc248, zyc240, zyc10, zyc10, zyc10, zyc12, zyc241, zyc8, zyc8, zyc241, zyc8, zyc8, zyc840, zyc250]
noncomputable def zyh967 : zH := (126, [zyr178, zyr179, zyr180, zyr181, zyr182, zyr761, zyr184, zyr185], zym9)
noncomputable def zyc841 : zC := .inr (8, [zyv120, zyv15, zyv15, zyv15, zyv120, zyv120, zyv120, zyv120, zyv15, zyv120, zyv15, zyv15, zyv125, zyv17, zyv319, zyv339, zyv122, zyv120, zyv120, zyv120, zyv15, zyv36, zyv127, zyv120, zyv15, zyv120, zyv120, zyv15, zyv15, zyv120, zyv120, zyv120, zyv120, zyv120, zyv120, zyv120, zyv120, zyv120, zyv120, zyv15, zyv120, zyv120, zyv120, zyv120, zyv15, zyv15, zyv15, zyv15, zyv120, zyv120, zyv120])
noncomputable def zyr762 : List zC := [zyc248, zyc248, zyc248, zyc240, zyc10, zyc10, zyc10, zyc12, zyc241, zyc8, zyc8, zyc241, zyc8, zyc8, zyc841, zyc250]
noncomputable def zyh968 : zH := (126, [zyr178, zyr179, zyr180, zyr181, zyr182, zyr762, zyr184, zyr185], 0)
noncomputable def zyh969 : zH := (126, [zyr178, zyr179, zyr180, zyr181, zyr182, zyr762, zyr184, zyr185], zym9)
noncomputable def zyc842 : zC := .inr (8, [zyv120, zyv15, zyv15, zyv15, zyv120, zyv120, zyv120, zyv120, zyv15, zyv120, zyv15, zyv15, zyv125, zyv17, zyv319, zyv340, zyv166, zyv120, zyv120, zyv120, zyv15, zyv36, zyv127, zyv120, zyv15, zyv120, zyv120, zyv15, zyv15, zyv120, zyv120, zyv120, zyv120, zyv120, zyv120, zyv120, zyv120, zyv120, zyv120, zyv15, zyv120, zyv120, zyv120, zyv120, zyv15, zyv15, zyv15, zyv15, zyv120, zyv120, zyv120])
noncomputable def zyr763 : List zC := [zyc248, zyc248, zyc248, zyc240, zyc10, zyc10, zyc10, zyc12, zyc241, zyc8, zyc8, zyc241, zyc8, zyc8, zyc842, zyc250]
noncomputable def zyh970 : zH := (126, [zyr178, zyr179, zyr180, zyr181, zyr182, zyr763, zyr184, zyr185], zym9)
noncomputable def zyc843 : zC := .inr (8, [zyv120, zyv15, zyv15, zyv15, zyv120, zyv120, zyv120, zyv120, zyv15, zyv120, zyv15, zyv15, zyv125, zyv17, zyv319, zyv340, zyv122, zyv120, zyv120, zyv120, zyv15, zyv36, zyv127, zyv120, zyv15, zyv120, zyv120, zyv15, zyv15, zyv120, zyv120, zyv120, zyv120, zyv120, zyv120, zyv120, zyv120, zyv120, zyv120, zyv15, zyv120, zyv120, zyv120, zyv120, zyv15, zyv15, zyv15, zyv15, zyv120, zyv120, zyv120])
noncomputable def zyr764 : List zC := [zyc248, zyc248, zyc248, zyc240, zyc10, zyc10, zyc10, zyc12, zyc241, zyc8, zyc8, zyc241, zyc8, zyc8, zyc843, zyc250]
noncomputable def zyh971 : zH := (126, [zyr178, zyr179, zyr180, zyr181, zyr182, zyr764, zyr184, zyr185], 0)
noncomputable def zyh972 : zH := (126, [zyr178, zyr179, zyr180, zyr181, zyr182, zyr764, zyr184, zyr185], zym9)
noncomputable def zyc844 : zC := .inr (8, [zyv120, zyv15, zyv15, zyv15, zyv120, zyv120, zyv120, zyv120, zyv15, zyv120, zyv15, zyv15, zyv125, zyv17, zyv319, zyv341, zyv166, zyv120, zyv120, zyv120, zyv15, zyv36, zyv127, zyv120, zyv15, zyv120, zyv120, zyv15, zyv15, zyv120, zyv120, zyv120, zyv120, zyv120, zyv120, zyv120, zyv120, zyv120, zyv120, zyv15, zyv120, zyv120, zyv120, zyv120, zyv15, zyv15, zyv15, zyv15, zyv120, zyv120, zyv120])
noncomputable def zyr765 : List zC := [zyc248, zyc248, zyc248, zyc240, zyc10, zyc10, zyc10, zyc12, zyc241, zyc8, zyc8, zyc241, zyc8, zyc8, zyc844, zyc250]
noncomputable def zyh973 : zH := (126, [zyr178, zyr179, zyr180, zyr181, zyr182, zyr765, zyr184, zyr185], zym9)
noncomputable def zyc845 : zC := .inr (8, [zyv120, zyv15, zyv15, zyv15, zyv120, zyv120, zyv120, zyv120, zyv15, zyv120, zyv15, zyv15, zyv125, zyv17, zyv319, zyv341, zyv122, zyv120, zyv120, zyv120, zyv15, zyv36, zyv127, zyv120, zyv15, zyv120, zyv120, zyv15, zyv15, zyv120, zyv120, zyv120, zyv120, zyv120, zyv120, zyv120, zyv120, zyv120, zyv120, zyv15, zyv120, zyv120, zyv120, zyv120, zyv15, zyv15, zyv15, zyv15, zyv120, zyv120, zyv120])
noncomputable def zyr766 : List zC := [zyc248, zyc248, zyc248, zyc240, zyc10, zyc10, zyc10, zyc12, zyc241, zyc8, zyc8, zyc241, zyc8, zyc8, zyc845, zyc250]
noncomputable def zyh974 : zH := (126, [zyr178, zyr179, zyr180, zyr181, zyr182, zyr766, zyr184, zyr185], 0)
noncomputable def zyh975 : zH := (126, [zyr178, zyr179, zyr180, zyr181, zyr182, zyr766, zyr184, zyr185], zym9)
noncomputable def zyc846 : zC := .inr (8, [zyv120, zyv15, zyv15, zyv15, zyv120, zyv120, zyv120, zyv120, zyv15, zyv120, zyv15, zyv15, zyv125, zyv17, zyv319, zyv342, zyv166, zyv120, zyv120, zyv120, zyv15, zyv36, zyv127, zyv120, zyv15, zyv120, zyv120, zyv15, zyv15, zyv120, zyv120, zyv120, zyv120, zyv120, zyv120, zyv120, zyv120, zyv120, zyv120, zyv15, zyv120, zyv120, zyv120, zyv120, zyv15, zyv15, zyv15, zyv15, zyv120, zyv120, zyv120])
noncomputable def zyr767 : List zC := [zyc248, zyc248, zyc248, zyc240, zyc10, zyc10, zyc10, zyc12, zyc241, zyc8, zyc8, zyc241, zyc8, zyc8, zyc846, zyc250]
noncomputable def zyh976 : zH := (126, [zyr178, zyr179, zyr180, zyr181, zyr182, zyr767, zyr184, zyr185], zym9)
noncomputable def zyc847 : zC := .inr (8, [zyv120, zyv15, zyv15, zyv15, zyv120, zyv120, zyv120, zyv120, zyv15, zyv120, zyv15, zyv15, zyv125, zyv17, zyv319, zyv342, zyv122, zyv120, zyv120, zyv120, zyv15, zyv36, zyv127, zyv120, zyv15, zyv120, zyv120, zyv15, zyv15, zyv120, zyv120, zyv120, zyv120, zyv120, zyv120, zyv120, zyv120, zyv120, zyv120, zyv15, zyv120, zyv120, zyv120, zyv120, zyv15, zyv15, zyv15, zyv15, zyv120, zyv120, zyv120])
noncomputable def zyr768 : List zC := [zyc248, zyc248, zyc248, zyc240, zyc10, zyc10, zyc10, zyc12, zyc241, zyc8, zyc8, zyc241, zyc8, zyc8, zyc847, zyc250]
noncomputable def zyh977 : zH := (126, [zyr178, zyr179, zyr180, zyr181, zyr182, zyr768, zyr184, zyr185], 0)
noncomputable def zyh978 : zH := (126, [zyr178, zyr179, zyr180, zyr181, zyr182, zyr768, zyr184, zyr185], zym9)
noncomputable def zyc848 : zC := .inr (8, [zyv120, zyv15, zyv15, zyv15, zyv120, zyv120, zyv120, zyv120, zyv15, zyv120, zyv15, zyv15, zyv125, zyv17, zyv319, zyv343, zyv166, zyv120, zyv120, zyv120, zyv15, zyv36, zyv127, zyv120, zyv15, zyv120, zyv120, zyv15, zyv15, zyv120, zyv120, zyv120, zyv120, zyv120, zyv120, zyv120, zyv120, zyv120, zyv120, zyv15, zyv120, zyv120, zyv120, zyv120, zyv15, zyv15, zyv15, zyv15, zyv120, zyv120, zyv120])
noncomputable def zyr769 : List zC := [zyc248, zyc248, zyc248, zyc240, zyc10, zyc10, zyc10, zyc12, zyc241, zyc8, zyc8, zyc241, zyc8, zyc8, zyc848, zyc250]
noncomputable def zyh979 : zH := (126, [zyr178, zyr179, zyr180, zyr181, zyr182, zyr769, zyr184, zyr185], zym9)
noncomputable def zyc849 : zC := .inr (8, [zyv120, zyv15, zyv15, zyv15, zyv120, zyv120, zyv120, zyv120, zyv15, zyv120, zyv15, zyv15, zyv125, zyv17, zyv319, zyv343, zyv122, zyv120, zyv120, zyv120, zyv15, zyv36, zyv127, zyv120, zyv15, zyv120, zyv120, zyv15, zyv15, zyv120, zyv120, zyv120, zyv120, zyv120, zyv120, zyv120, zyv120, zyv120, zyv120, zyv15, zyv120, zyv120, zyv120, zyv120, zyv15, zyv15, zyv15, zyv15, zyv120, zyv120, zyv120])
noncomputable def zyr770 : List zC := [zyc248, zyc248, zyc248, zyc240, zyc10, zyc10, zyc10, zyc12, zyc241, zyc8, zyc8, zyc241, zyc8, zyc8, zyc849, zyc250]
noncomputable def zyh980 : zH := (126, [zyr178, zyr179, zyr180, zyr181, zyr182, zyr770, zyr184, zyr185], 0)
noncomputable def zyh981 : zH := (126, [zyr178, zyr179, zyr180, zyr181, zyr182, zyr770, zyr184, zyr185], zym9)
noncomputable def zyc850 : zC := .inr (8, [zyv120, zyv15, zyv15, zyv15, zyv120, zyv120, zyv120, zyv120, zyv15, zyv120, zyv15, zyv15, zyv125, zyv17, zyv319, zyv344, zyv166, zyv120, zyv120, zyv120, zyv15, zyv36, zyv127, zyv120, zyv15, zyv120, zyv120, zyv15, zyv15, zyv120, zyv120, zyv120, zyv120, zyv120, zyv120, zyv120, zyv120, zyv120, zyv120, zyv15, zyv120, zyv120, zyv120, zyv120, zyv15, zyv15, zyv15, zyv15, zyv120, zyv120, zyv120])
noncomputable def zyr771 : List zC := [zyc248, zyc248, zyc248, zyc240, zyc10, zyc10, zyc10, zyc12, zyc241, zyc8, zyc8, zyc241, zyc8, zyc8, zyc850, zyc250]
noncomputable def zyh982 : zH := (126, [zyr178, zyr179, zyr180, zyr181, zyr182, zyr771, zyr184, zyr185], zym9)
noncomputable def zyc851 : zC := .inr (8, [zyv120, zyv15, zyv15, zyv15, zyv120, zyv120, zyv120, zyv120, zyv15, zyv120, zyv15, zyv15, zyv125, zyv17, zyv319, zyv344, zyv122, zyv120, zyv120, zyv120, zyv15, zyv36, zyv127, zyv120, zyv15, zyv120, zyv120, zyv15, zyv15, zyv120, zyv120, zyv120, zyv120, zyv120, zyv120, zyv120, zyv120, zyv120, zyv120, zyv15, zyv120, zyv120, zyv120, zyv120, zyv15, zyv15, zyv15, zyv15, zyv120, zyv120, zyv120])
noncomputable def zyr772 : List zC := [zyc248, zyc248, zyc248, zyc240, zyc10, zyc10, zyc10, zyc12, zyc241, zyc8, zyc8, zyc241, zyc8, zyc8, zyc851, zyc250]
noncomputable def zyh983 : zH := (126, [zyr178, zyr179, zyr180, zyr181, zyr182, zyr772, zyr184, zyr185], 0)
noncomputable def zyh984 : zH := (126, [zyr178, zyr179, zyr180, zyr181, zyr182, zyr772, zyr184, zyr185], zym9)
noncomputable def zyc852 : zC := .inr (8, [zyv120, zyv15, zyv15, zyv15, zyv120, zyv120, zyv120, zyv120, zyv15, zyv120, zyv15, zyv15, zyv125, zyv17, zyv319, zyv345, zyv166, zyv120, zyv120, zyv120, zyv15, zyv36, zyv127, zyv120, zyv15, zyv120, zyv120, zyv15, zyv15, zyv120, zyv120, zyv120, zyv120, zyv120, zyv120, zyv120, zyv120, zyv120, zyv120, zyv15, zyv120, zyv120, zyv120, zyv120, zyv15, zyv15, zyv15, zyv15, zyv120, zyv120, zyv120])
noncomputable def zyr773 : List zC := [zyc248, zyc248, zyc248, zyc240, zyc10, zyc10, zyc10, zyc12, zyc241, zyc8, zyc8, zyc241, zyc8, zyc8, zyc852, zyc250]
noncomputable def zyh985 : zH := (126, [zyr178, zyr179, zyr180, zyr181, zyr182, zyr773, zyr184, zyr185], zym9)
noncomputable def zyc853 : zC := .inr (8, [zyv120, zyv15, zyv15, zyv15, zyv120, zyv120, zyv120, zyv120, zyv15, zyv120, zyv15, zyv15, zyv125, zyv17, zyv319, zyv345, zyv122, zyv120, zyv120, zyv120, zyv15, zyv36, zyv127, zyv120, zyv15, zyv120, zyv120, zyv15, zyv15, zyv120, zyv120, zyv120, zyv120, zyv120, zyv120, zyv120, zyv120, zyv120, zyv120, zyv15, zyv120, zyv120, zyv120, zyv120, zyv15, zyv15, zyv15, zyv15, zyv120, zyv120, zyv120])
noncomputable def zyr774 : List zC := [zyc248, zyc248, zyc248, zyc240, zyc10, zyc10, zyc10, zyc12, zyc241, zyc8, zyc8, zyc241, zyc8, zyc8, zyc853, zyc250]
noncomputable def zyh986 : zH := (126, [zyr178, zyr179, zyr180, zyr181, zyr182, zyr774, zyr184, zyr185], 0)
noncomputable def zyh987 : zH := (126, [zyr178, zyr179, zyr180, zyr181, zyr182, zyr774, zyr184, zyr185], zym9)
noncomputable def zyc854 : zC := .inr (8, [zyv120, zyv15, zyv15, zyv15, zyv120, zyv120, zyv120, zyv120, zyv15, zyv120, zyv15, zyv15, zyv125, zyv17, zyv319, zyv346, zyv166, zyv120, zyv120, zyv120, zyv15, zyv36, zyv127, zyv120, zyv15, zyv120, zyv120, zyv15, zyv15, zyv120, zyv120, zyv120, zyv120, zyv120, zyv120, zyv120, zyv120, zyv120, zyv120, zyv15, zyv120, zyv120, zyv120, zyv120, zyv15, zyv15, zyv15, zyv15, zyv120, zyv120, zyv120])
noncomputable def zyr775 : List zC := [zyc248, zyc248, zyc248, zyc240, zyc10, zyc10, zyc10, zyc12, zyc241, zyc8, zyc8, zyc241, zyc8, zyc8, zyc854, zyc250]
noncomputable def zyh988 : zH := (126, [zyr178, zyr179, zyr180, zyr181, zyr182, zyr775, zyr184, zyr185], zym9)
noncomputable def zyc855 : zC := .inr (8, [zyv120, zyv15, zyv15, zyv15, zyv120, zyv120, zyv120, zyv120, zyv15, zyv120, zyv15, zyv15, zyv125, zyv17, zyv319, zyv346, zyv122, zyv120, zyv120, zyv120, zyv15, zyv36, zyv127, zyv120, zyv15, zyv120, zyv120, zyv15, zyv15, zyv120, zyv120, zyv120, zyv120, zyv120, zyv120, zyv120, zyv120, zyv120, zyv120, zyv15, zyv120, zyv120, zyv120, zyv120, zyv15, zyv15, zyv15, zyv15, zyv120, zyv120, zyv120])
noncomputable def zyr776 : List zC := [zyc248, zyc248, zyc248, zyc240, zyc10, zyc10, zyc10, zyc12, zyc241, zyc8, zyc8, zyc241, zyc8, zyc8, zyc855, zyc250]
noncomputable def zyh989 : zH := (126, [zyr178, zyr179, zyr180, zyr181, zyr182, zyr776, zyr184, zyr185], 0)
noncomputable def zyh990 : zH := (126, [zyr178, zyr179, zyr180, zyr181, zyr182, zyr776, zyr184, zyr185], zym9)
noncomputable def zyc856 : zC := .inr (8, [zyv120, zyv15, zyv15, zyv15, zyv120, zyv120, zyv120, zyv120, zyv15, zyv120, zyv15, zyv15, zyv125, zyv17, zyv319, zyv347, zyv166, zyv120, zyv120, zyv120, zyv15, zyv36, zyv127, zyv120, zyv15, zyv120, zyv120, zyv15, zyv15, zyv120, zyv120, zyv120, zyv120, zyv120, zyv120, zyv120, zyv120, zyv120, zyv120, zyv15, zyv120, zyv120, zyv120, zyv120, zyv15, zyv15, zyv15, zyv15, zyv120, zyv120, zyv120])
noncomputable def zyr777 : List zC := [zyc248, zyc248, zyc248, zyc240, zyc10, zyc10, zyc10, zyc12, zyc241, zyc8, zyc8, zyc241, zyc8, zyc8, zyc856, zyc250]
noncomputable def zyh991 : zH := (126, [zyr178, zyr179, zyr180, zyr181, zyr182, zyr777, zyr184, zyr185], zym9)
noncomputable def zyc857 : zC := .inr (8, [zyv120, zyv15, zyv15, zyv15, zyv120, zyv120, zyv120, zyv120, zyv15, zyv120, zyv15, zyv15, zyv125, zyv17, zyv319, zyv347, zyv122, zyv120, zyv120, zyv120, zyv15, zyv36, zyv127, zyv120, zyv15, zyv120, zyv120, zyv15, zyv15, zyv120, zyv120, zyv120, zyv120, zyv120, zyv120, zyv120, zyv120, zyv120, zyv120, zyv15, zyv120, zyv120, zyv120, zyv120, zyv15, zyv15, zyv15, zyv15, zyv120, zyv120, zyv120])
noncomputable def zyr778 : List zC := [zyc248, zyc248, zyc248, zyc240, zyc10, zyc10, zyc10, zyc12, zyc241, zyc8, zyc8, zyc241, zyc8, zyc8, zyc857, zyc250]
noncomputable def zyh992 : zH := (126, [zyr178, zyr179, zyr180, zyr181, zyr182, zyr778, zyr184, zyr185], 0)
noncomputable def zyh993 : zH := (126, [zyr178, zyr179, zyr180, zyr181, zyr182, zyr778, zyr184, zyr185], zym9)
noncomputable def zyc858 : zC := .inr (8, [zyv120, zyv15, zyv15, zyv15, zyv120, zyv120, zyv120, zyv120, zyv15, zyv120, zyv15, zyv15, zyv125, zyv17, zyv319, zyv348, zyv166, zyv120, zyv120, zyv120, zyv15, zyv36, zyv127, zyv120, zyv15, zyv120, zyv120, zyv15, zyv15, zyv120, zyv120, zyv120, zyv120, zyv120, zyv120, zyv120, zyv120, zyv120, zyv120, zyv15, zyv120, zyv120, zyv120, zyv120, zyv15, zyv15, zyv15, zyv15, zyv120, zyv120, zyv120])
noncomputable def zyr779 : List zC := [zyc248, zyc248, zyc248, zyc240, zyc10, zyc10, zyc10, zyc12, zyc241, zyc8, zyc8, zyc241, zyc8, zyc8, zyc858, zyc250]
noncomputable def zyh994 : zH := (126, [zyr178, zyr179, zyr180, zyr181, zyr182, zyr779, zyr184, zyr185], zym9)
noncomputable def zyc859 : zC := .inr (8, [zyv120, zyv15, zyv15, zyv15, zyv120, zyv120, zyv120, zyv120, zyv15, zyv120, zyv15, zyv15, zyv125, zyv17, zyv319, zyv348, zyv122, zyv120, zyv120, zyv120, zyv15, zyv36, zyv127, zyv120, zyv15, zyv120, zyv120, zyv15, zyv15, zyv120, zyv120, zyv120, zyv120, zyv120, zyv120, zyv120, zyv120, zyv120, zyv120, zyv15, zyv120, zyv120, zyv120, zyv120, zyv15, zyv15, zyv15, zyv15, zyv120, zyv120, zyv120])
noncomputable def zyr780 : List zC := [zyc248, zyc248, zyc248, zyc240, zyc10, zyc10, zyc10, zyc12, zyc241, zyc8, zyc8, zyc241, zyc8, zyc8, zyc859, zyc250]
noncomputable def zyh995 : zH := (126, [zyr178, zyr179, zyr180, zyr181, zyr182, zyr780, zyr184, zyr185], 0)
noncomputable def zyh996 : zH := (126, [zyr178, zyr179, zyr180, zyr181, zyr182, zyr780, zyr184, zyr185], zym9)
noncomputable def zyc860 : zC := .inr (8, [zyv120, zyv15, zyv15, zyv15, zyv120, zyv120, zyv120, zyv120, zyv15, zyv120, zyv15, zyv15, zyv125, zyv17, zyv319, zyv349, zyv166, zyv120, zyv120, zyv120, zyv15, zyv36, zyv127, zyv120, zyv15, zyv120, zyv120, zyv15, zyv15, zyv120, zyv120, zyv120, zyv120, zyv120, zyv120, zyv120, zyv120, zyv120, zyv120, zyv15, zyv120, zyv120, zyv120, zyv120, zyv15, zyv15, zyv15, zyv15, zyv120, zyv120, zyv120])
noncomputable def zyr781 : List zC := [zyc248, zyc248, zyc248, zyc240, zyc10, zyc10, zyc10, zyc12, zyc241, zyc8, zyc8, zyc241, zyc8, zyc8, zyc860, zyc250]
noncomputable def zyh997 : zH := (126, [zyr178, zyr179, zyr180, zyr181, zyr182, zyr781, zyr184, zyr185], zym9)
noncomputable def zyc861 : zC := .inr (8, [zyv120, zyv15, zyv15, zyv15, zyv120, zyv120, zyv120, zyv120, zyv15, zyv120, zyv15, zyv15, zyv125, zyv17, zyv319, zyv349, zyv122, zyv120, zyv120, zyv120, zyv15, zyv36, zyv127, zyv120, zyv15, zyv120, zyv120, zyv15, zyv15, zyv120, zyv120, zyv120, zyv120, zyv120, zyv120, zyv120, zyv120, zyv120, zyv120, zyv15, zyv120, zyv120, zyv120, zyv120, zyv15, zyv15, zyv15, zyv15, zyv120, zyv120, zyv120])
noncomputable def zyr782 : List zC := [zyc248, zyc248, zyc248, zyc240, zyc10, zyc10, zyc10, zyc12, zyc241, zyc8, zyc8, zyc241, zyc8, zyc8, zyc861, zyc250]
noncomputable def zyh998 : zH := (126, [zyr178, zyr179, zyr180, zyr181, zyr182, zyr782, zyr184, zyr185], 0)
noncomputable def zyh999 : zH := (126, [zyr178, zyr179, zyr180, zyr181, zyr182, zyr782, zyr184, zyr185], zym9)
noncomputable def zyc862 : zC := .inr (8, [zyv120, zyv15, zyv15, zyv15, zyv120, zyv120, zyv120, zyv120, zyv15, zyv120, zyv15, zyv15, zyv125, zyv17, zyv319, zyv350, zyv166, zyv120, zyv120, zyv120, zyv15, zyv36, zyv127, zyv120, zyv15, zyv120, zyv120, zyv15, zyv15, zyv120, zyv120, zyv120, zyv120, zyv120, zyv120, zyv120, zyv120, zyv120, zyv120, zyv15, zyv120, zyv120, zyv120, zyv120, zyv15, zyv15, zyv15, zyv15, zyv120, zyv120, zyv120])
noncomputable def zyr783 : List zC := [zyc248, zyc248, zyc248, zyc240, zyc10, zyc10, zyc10, zyc12, zyc241, zyc8, zyc8, zyc241, zyc8, zyc8, zyc862, zyc250]
noncomputable def zyh1000 : zH := (126, [zyr178, zyr179, zyr180, zyr181, zyr182, zyr783, zyr184, zyr185], zym9)
noncomputable def zyc863 : zC := .inr (8, [zyv120, zyv15, zyv15, zyv15, zyv120, zyv120, zyv120, zyv120, zyv15, zyv120, zyv15, zyv15, zyv125, zyv17, zyv319, zyv350, zyv122, zyv120, zyv120, zyv120, zyv15, zyv36, zyv127, zyv120, zyv15, zyv120, zyv120, zyv15, zyv15, zyv120, zyv120, zyv120, zyv120, zyv120, zyv120, zyv120, zyv120, zyv120, zyv120, zyv15, zyv120, zyv120, zyv120, zyv120, zyv15, zyv15, zyv15, zyv15, zyv120, zyv120, zyv120])
noncomputable def zyr784 : List zC := [zyc248, zyc248, zyc248, zyc240, zyc10, zyc10, zyc10, zyc12, zyc241, zyc8, zyc8, zyc241, zyc8, zyc8, zyc863, zyc250]
noncomputable def zyh1001 : zH := (126, [zyr178, zyr179, zyr180, zyr181, zyr182, zyr784, zyr184, zyr185], 0)
noncomputable def zyh1002 : zH := (126, [zyr178, zyr179, zyr180, zyr181, zyr182, zyr784, zyr184, zyr185], zym9)
noncomputable def zyc864 : zC := .inr (8, [zyv120, zyv15, zyv15, zyv15, zyv120, zyv120, zyv120, zyv120, zyv15, zyv120, zyv15, zyv15, zyv125, zyv17, zyv319, zyv351, zyv166, zyv120, zyv120, zyv120, zyv15, zyv36, zyv127, zyv120, zyv15, zyv120, zyv120, zyv15, zyv15, zyv120, zyv120, zyv120, zyv120, zyv120, zyv120, zyv120, zyv120, zyv120, zyv120, zyv15, zyv120, zyv120, zyv120, zyv120, zyv15, zyv15, zyv15, zyv15, zyv120, zyv120, zyv120])
noncomputable def zyr785 : List zC := [zyc248, zyc248, zyc248, zyc240, zyc10, zyc10, zyc10, zyc12, zyc241, zyc8, zyc8, zyc241, zyc8, zyc8, zyc864, zyc250]
noncomputable def zyh1003 : zH := (126, [zyr178, zyr179, zyr180, zyr181, zyr182, zyr785, zyr184, zyr185], zym9)
noncomputable def zyc865 : zC := .inr (8, [zyv120, zyv15, zyv15, zyv15, zyv120, zyv120, zyv120, zyv120, zyv15, zyv120, zyv15, zyv15, zyv125, zyv17, zyv319, zyv351, zyv122, zyv120, zyv120, zyv120, zyv15, zyv36, zyv127, zyv120, zyv15, zyv120, zyv120, zyv15, zyv15, zyv120, zyv120, zyv120, zyv120, zyv120, zyv120, zyv120, zyv120, zyv120, zyv120, zyv15, zyv120, zyv120, zyv120, zyv120, zyv15, zyv15, zyv15, zyv15, zyv120, zyv120, zyv120])
noncomputable def zyr786 : List zC := [zyc248, zyc248, zyc248, zyc240, zyc10, zyc10, zyc10, zyc12, zyc241, zyc8, zyc8, zyc241, zyc8, zyc8, zyc865, zyc250]
noncomputable def zyh1004 : zH := (126, [zyr178, zyr179, zyr180, zyr181, zyr182, zyr786, zyr184, zyr185], 0)
noncomputable def zyh1005 : zH := (126, [zyr178, zyr179, zyr180, zyr181, zyr182, zyr786, zyr184, zyr185], zym9)
noncomputable def zyc866 : zC := .inr (8, [zyv120, zyv15, zyv15, zyv15, zyv120, zyv120, zyv120, zyv120, zyv15, zyv120, zyv15, zyv15, zyv125, zyv17, zyv319, zyv352, zyv166, zyv120, zyv120, zyv120, zyv15, zyv36, zyv127, zyv120, zyv15, zyv120, zyv120, zyv15, zyv15, zyv120, zyv120, zyv120, zyv120, zyv120, zyv120, zyv120, zyv120, zyv120, zyv120, zyv15, zyv120, zyv120, zyv120, zyv120, zyv15, zyv15, zyv15, zyv15, zyv120, zyv120, zyv120])
noncomputable def zyr787 : List zC := [zyc248, zyc248, zyc248, zyc240, zyc10, zyc10, zyc10, zyc12, zyc241, zyc8, zyc8, zyc241, zyc8, zyc8, zyc866, zyc250]
noncomputable def zyh1006 : zH := (126, [zyr178, zyr179, zyr180, zyr181, zyr182, zyr787, zyr184, zyr185], zym9)
noncomputable def zyc867 : zC := .inr (8, [zyv120, zyv15, zyv15, zyv15, zyv120, zyv120, zyv120, zyv120, zyv15, zyv120, zyv15, zyv15, zyv125, zyv17, zyv319, zyv352, zyv122, zyv120, zyv120, zyv120, zyv15, zyv36, zyv127, zyv120, zyv15, zyv120, zyv120, zyv15, zyv15, zyv120, zyv120, zyv120, zyv120, zyv120, zyv120, zyv120, zyv120, zyv120, zyv120, zyv15, zyv120, zyv120, zyv120, zyv120, zyv15, zyv15, zyv15, zyv15, zyv120, zyv120, zyv120])
noncomputable def zyr788 : List zC := [zyc248, zyc248, zyc248, zyc240, zyc10, zyc10, zyc10, zyc12, zyc241, zyc8, zyc8, zyc241, zyc8, zyc8, zyc867, zyc250]
noncomputable def zyh1007 : zH := (126, [zyr178, zyr179, zyr180, zyr181, zyr182, zyr788, zyr184, zyr185], 0)
noncomputable def zyh1008 : zH := (126, [zyr178, zyr179, zyr180, zyr181, zyr182, zyr788, zyr184, zyr185], zym9)
noncomputable def zyc868 : zC := .inr (8, [zyv120, zyv15, zyv15, zyv15, zyv120, zyv120, zyv120, zyv120, zyv15, zyv120, zyv15, zyv15, zyv125, zyv17, zyv319, zyv353, zyv166, zyv120, zyv120, zyv120, zyv15, zyv36, zyv127, zyv120, zyv15, zyv120, zyv120, zyv15, zyv15, zyv120, zyv120, zyv120, zyv120, zyv120, zyv120, zyv120, zyv120, zyv120, zyv120, zyv15, zyv120, zyv120, zyv120, zyv120, zyv15, zyv15, zyv15, zyv15, zyv120, zyv120, zyv120])
noncomputable def zyr789 : List zC := [zyc248, zyc248, zyc248, zyc240, zyc10, zyc10, zyc10, zyc12, zyc241, zyc8, zyc8, zyc241, zyc8, zyc8, zyc868, zyc250]
noncomputable def zyh1009 : zH := (126, [zyr178, zyr179, zyr180, zyr181, zyr182, zyr789, zyr184, zyr185], zym9)
noncomputable def zyc869 : zC := .inr (8, [zyv120, zyv15, zyv15, zyv15, zyv120, zyv120, zyv120, zyv120, zyv15, zyv120, zyv15, zyv15, zyv125, zyv17, zyv319, zyv353, zyv122, zyv120, zyv120, zyv120, zyv15, zyv36, zyv127, zyv120, zyv15, zyv120, zyv120, zyv15, zyv15, zyv120, zyv120, zyv120, zyv120, zyv120, zyv120, zyv120, zyv120, zyv120, zyv120, zyv15, zyv120, zyv120, zyv120, zyv120, zyv15, zyv15, zyv15, zyv15, zyv120, zyv120, zyv120])
noncomputable def zyr790 : List zC := [zyc248, zyc248, zyc248, zyc240, zyc10, zyc10, zyc10, zyc12, zyc241, zyc8, zyc8, zyc241, zyc8, zyc8, zyc869, zyc250]
noncomputable def zyh1010 : zH := (126, [zyr178, zyr179, zyr180, zyr181, zyr182, zyr790, zyr184, zyr185], 0)
noncomputable def zyh1011 : zH := (126, [zyr178, zyr179, zyr180, zyr181, zyr182, zyr790, zyr184, zyr185], zym9)
noncomputable def zyc870 : zC := .inr (8, [zyv120, zyv15, zyv15, zyv15, zyv120, zyv120, zyv120, zyv120, zyv15, zyv120, zyv15, zyv15, zyv125, zyv17, zyv319, zyv354, zyv166, zyv120, zyv120, zyv120, zyv15, zyv36, zyv127, zyv120, zyv15, zyv120, zyv120, zyv15, zyv15, zyv120, zyv120, zyv120, zyv120, zyv120, zyv120, zyv120, zyv120, zyv120, zyv120, zyv15, zyv120, zyv120, zyv120, zyv120, zyv15, zyv15, zyv15, zyv15, zyv120, zyv120, zyv120])
noncomputable def zyr791 : List zC := [zyc248, zyc248, zyc248, zyc240, zyc10, zyc10, zyc10, zyc12, zyc241, zyc8, zyc8, zyc241, zyc8, zyc8, zyc870, zyc250]
noncomputable def zyh1012 : zH := (126, [zyr178, zyr179, zyr180, zyr181, zyr182, zyr791, zyr184, zyr185], zym9)
noncomputable def zyc871 : zC := .inr (8, [zyv120, zyv15, zyv15, zyv15, zyv120, zyv120, zyv120, zyv120, zyv15, zyv120, zyv15, zyv15, zyv125, zyv17, zyv319, zyv354, zyv122, zyv120, zyv120, zyv120, zyv15, zyv36, zyv127, zyv120, zyv15, zyv120, zyv120, zyv15, zyv15, zyv120, zyv120, zyv120, zyv120, zyv120, zyv120, zyv120, zyv120, zyv120, zyv120, zyv15, zyv120, zyv120, zyv120, zyv120, zyv15, zyv15, zyv15, zyv15, zyv120, zyv120, zyv120])
noncomputable def zyr792 : List zC := [zyc248, zyc248, zyc248, zyc240, zyc10, zyc10, zyc10, zyc12, zyc241, zyc8, zyc8, zyc241, zyc8, zyc8, zyc871, zyc250]
noncomputable def zyh1013 : zH := (126, [zyr178, zyr179, zyr180, zyr181, zyr182, zyr792, zyr184, zyr185], 0)
noncomputable def zyh1014 : zH := (126, [zyr178, zyr179, zyr180, zyr181, zyr182, zyr792, zyr184, zyr185], zym9)
noncomputable def zyc872 : zC := .inr (8, [zyv120, zyv15, zyv15, zyv15, zyv120, zyv120, zyv120, zyv120, zyv15, zyv120, zyv15, zyv15, zyv125, zyv17, zyv319, zyv355, zyv166, zyv120, zyv120, zyv120, zyv15, zyv36, zyv127, zyv120, zyv15, zyv120, zyv120, zyv15, zyv15, zyv120, zyv120, zyv120, zyv120, zyv120, zyv120, zyv120, zyv120, zyv120, zyv120, zyv15, zyv120, zyv120, zyv120, zyv120, zyv15, zyv15, zyv15, zyv15, zyv120, zyv120, zyv120])
noncomputable def zyr793 : List zC := [zyc248, zyc248, zyc248, zyc240, zyc10, zyc10, zyc10, zyc12, zyc241, zyc8, zyc8, zyc241, zyc8, zyc8, zyc872, zyc250]
noncomputable def zyh1015 : zH := (126, [zyr178, zyr179, zyr180, zyr181, zyr182, zyr793, zyr184, zyr185], zym9)
noncomputable def zyc873 : zC := .inr (8, [zyv120, zyv15, zyv15, zyv15, zyv120, zyv120, zyv120, zyv120, zyv15, zyv120, zyv15, zyv15, zyv125, zyv17, zyv319, zyv355, zyv122, zyv120, zyv120, zyv120, zyv15, zyv36, zyv127, zyv120, zyv15, zyv120, zyv120, zyv15, zyv15, zyv120, zyv120, zyv120, zyv120, zyv120, zyv120, zyv120, zyv120, zyv120, zyv120, zyv15, zyv120, zyv120, zyv120, zyv120, zyv15, zyv15, zyv15, zyv15, zyv120, zyv120, zyv120])
noncomputable def zyr794 : List zC := [zyc248, zyc248, zyc248, zyc240, zyc10, zyc10, zyc10, zyc12, zyc241, zyc8, zyc8, zyc241, zyc8, zyc8, zyc873, zyc250]
noncomputable def zyh1016 : zH := (126, [zyr178, zyr179, zyr180, zyr181, zyr182, zyr794, zyr184, zyr185], 0)
noncomputable def zyh1017 : zH := (126, [zyr178, zyr179, zyr180, zyr181, zyr182, zyr794, zyr184, zyr185], zym9)
noncomputable def zyc874 : zC := .inr (8, [zyv120, zyv15, zyv15, zyv15, zyv120, zyv120, zyv120, zyv120, zyv15, zyv120, zyv15, zyv15, zyv125, zyv17, zyv319, zyv356, zyv166, zyv120, zyv120, zyv120, zyv15, zyv36, zyv127, zyv120, zyv15, zyv120, zyv120, zyv15, zyv15, zyv120, zyv120, zyv120, zyv120, zyv120, zyv120, zyv120, zyv120, zyv120, zyv120, zyv15, zyv120, zyv120, zyv120, zyv120, zyv15, zyv15, zyv15, zyv15, zyv120, zyv120, zyv120])
noncomputable def zyr795 : List zC := [zyc248, zyc248, zyc248, zyc240, zyc10, zyc10, zyc10, zyc12, zyc241, zyc8, zyc8, zyc241, zyc8, zyc8, zyc874, zyc250]
noncomputable def zyh1018 : zH := (126, [zyr178, zyr179, zyr180, zyr181, zyr182, zyr795, zyr184, zyr185], zym9)
noncomputable def zyc875 : zC := .inr (8, [zyv120, zyv15, zyv15, zyv15, zyv120, zyv120, zyv120, zyv120, zyv15, zyv120, zyv15, zyv15, zyv125, zyv17, zyv319, zyv356, zyv122, zyv120, zyv120, zyv120, zyv15, zyv36, zyv127, zyv120, zyv15, zyv120, zyv120, zyv15, zyv15, zyv120, zyv120, zyv120, zyv120, zyv120, zyv120, zyv120, zyv120, zyv120, zyv120, zyv15, zyv120, zyv120, zyv120, zyv120, zyv15, zyv15, zyv15, zyv15, zyv120, zyv120, zyv120])
noncomputable def zyr796 : List zC := [zyc248, zyc248, zyc248, zyc240, zyc10, zyc10, zyc10, zyc12, zyc241, zyc8, zyc8, zyc241, zyc8, zyc8, zyc875, zyc250]
noncomputable def zyh1019 : zH := (126, [zyr178, zyr179, zyr180, zyr181, zyr182, zyr796, zyr184, zyr185], 0)
noncomputable def zyh1020 : zH := (126, [zyr178, zyr179, zyr180, zyr181, zyr182, zyr796, zyr184, zyr185], zym9)
noncomputable def zyc876 : zC := .inr (8, [zyv120, zyv15, zyv15, zyv15, zyv120, zyv120, zyv120, zyv120, zyv15, zyv120, zyv15, zyv15, zyv125, zyv17, zyv319, zyv357, zyv166, zyv120, zyv120, zyv120, zyv15, zyv36, zyv127, zyv120, zyv15, zyv120, zyv120, zyv15, zyv15, zyv120, zyv120, zyv120, zyv120, zyv120, zyv120, zyv120, zyv120, zyv120, zyv120, zyv15, zyv120, zyv120, zyv120, zyv120, zyv15, zyv15, zyv15, zyv15, zyv120, zyv120, zyv120])
noncomputable def zyr797 : List zC := [zyc248, zyc248, zyc248, zyc240, zyc10, zyc10, zyc10, zyc12, zyc241, zyc8, zyc8, zyc241, zyc8, zyc8, zyc876, zyc250]
noncomputable def zyh1021 : zH := (126, [zyr178, zyr179, zyr180, zyr181, zyr182, zyr797, zyr184, zyr185], zym9)
noncomputable def zyc877 : zC := .inr (8, [zyv120, zyv15, zyv15, zyv15, zyv120, zyv120, zyv120, zyv120, zyv15, zyv120, zyv15, zyv15, zyv125, zyv17, zyv319, zyv357, zyv122, zyv120, zyv120, zyv120, zyv15, zyv36, zyv127, zyv120, zyv15, zyv120, zyv120, zyv15, zyv15, zyv120, zyv120, zyv120, zyv120, zyv120, zyv120, zyv120, zyv120, zyv120, zyv120, zyv15, zyv120, zyv120, zyv120, zyv120, zyv15, zyv15, zyv15, zyv15, zyv120, zyv120, zyv120])
noncomputable def zyr798 : List zC := [zyc248, zyc248, zyc248, zyc240, zyc10, zyc10, zyc10, zyc12, zyc241, zyc8, zyc8, zyc241, zyc8, zyc8, zyc877, zyc250]
noncomputable def zyh1022 : zH := (126, [zyr178, zyr179, zyr180, zyr181, zyr182, zyr798, zyr184, zyr185], 0)
noncomputable def zyh1023 : zH := (126, [zyr178, zyr179, zyr180, zyr181, zyr182, zyr798, zyr184, zyr185], zym9)
noncomputable def zyc878 : zC := .inr (8, [zyv120, zyv15, zyv15, zyv15, zyv120, zyv120, zyv120, zyv120, zyv15, zyv120, zyv15, zyv15, zyv125, zyv17, zyv319, zyv358, zyv166, zyv120, zyv120, zyv120, zyv15, zyv36, zyv127, zyv120, zyv15, zyv120, zyv120, zyv15, zyv15, zyv120, zyv120, zyv120, zyv120, zyv120, zyv120, zyv120, zyv120, zyv120, zyv120, zyv15, zyv120, zyv120, zyv120, zyv120, zyv15, zyv15, zyv15, zyv15, zyv120, zyv120, zyv120])
noncomputable def zyr799 : List zC := [zyc248, zyc248, zyc248, zyc240, zyc10, zyc10, zyc10, zyc12, zyc241, zyc8, zyc8, zyc241, zyc8, zyc8, zyc878, zyc250]
noncomputable def zyh1024 : zH := (126, [zyr178, zyr179, zyr180, zyr181, zyr182, zyr799, zyr184, zyr185], zym9)
noncomputable def zyc879 : zC := .inr (8, [zyv120, zyv15, zyv15, zyv15, zyv120, zyv120, zyv120, zyv120, zyv15, zyv120, zyv15, zyv15, zyv125, zyv17, zyv319, zyv358, zyv122, zyv120, zyv120, zyv120, zyv15, zyv36, zyv127, zyv120, zyv15, zyv120, zyv120, zyv15, zyv15, zyv120, zyv120, zyv120, zyv120, zyv120, zyv120, zyv120, zyv120, zyv120, zyv120, zyv15, zyv120, zyv120, zyv120, zyv120, zyv15, zyv15, zyv15, zyv15, zyv120, zyv120, zyv120])
noncomputable def zyr800 : List zC := [zyc248, zyc248, zyc248, zyc240, zyc10, zyc10, zyc10, zyc12, zyc241, zyc8, zyc8, zyc241, zyc8, zyc8, zyc879, zyc250]
noncomputable def zyh1025 : zH := (126, [zyr178, zyr179, zyr180, zyr181, zyr182, zyr800, zyr184, zyr185], 0)
noncomputable def zyh1026 : zH := (126, [zyr178, zyr179, zyr180, zyr181, zyr182, zyr800, zyr184, zyr185], zym9)
noncomputable def zyc880 : zC := .inr (8, [zyv120, zyv15, zyv15, zyv15, zyv120, zyv120, zyv120, zyv120, zyv15, zyv120, zyv15, zyv15, zyv125, zyv17, zyv319, zyv359, zyv166, zyv120, zyv120, zyv120, zyv15, zyv36, zyv127, zyv120, zyv15, zyv120, zyv120, zyv15, zyv15, zyv120, zyv120, zyv120, zyv120, zyv120, zyv120, zyv120, zyv120, zyv120, zyv120, zyv15, zyv120, zyv120, zyv120, zyv120, zyv15, zyv15, zyv15, zyv15, zyv120, zyv120, zyv120])
noncomputable def zyr801 : List zC := [zyc248, zyc248, zyc248, zyc240, zyc10, zyc10, zyc10, zyc12, zyc241, zyc8, zyc8, zyc241, zyc8, zyc8, zyc880, zyc250]
noncomputable def zyh1027 : zH := (126, [zyr178, zyr179, zyr180, zyr181, zyr182, zyr801, zyr184, zyr185], zym9)
noncomputable def zyc881 : zC := .inr (8, [zyv120, zyv15, zyv15, zyv15, zyv120, zyv120, zyv120, zyv120, zyv15, zyv120, zyv15, zyv15, zyv125, zyv17, zyv319, zyv359, zyv122, zyv120, zyv120, zyv120, zyv15, zyv36, zyv127, zyv120, zyv15, zyv120, zyv120, zyv15, zyv15, zyv120, zyv120, zyv120, zyv120, zyv120, zyv120, zyv120, zyv120, zyv120, zyv120, zyv15, zyv120, zyv120, zyv120, zyv120, zyv15, zyv15, zyv15, zyv15, zyv120, zyv120, zyv120])
noncomputable def zyr802 : List zC := [zyc248, zyc248, zyc248, zyc240, zyc10, zyc10, zyc10, zyc12, zyc241, zyc8, zyc8, zyc241, zyc8, zyc8, zyc881, zyc250]
noncomputable def zyh1028 : zH := (126, [zyr178, zyr179, zyr180, zyr181, zyr182, zyr802, zyr184, zyr185], 0)
noncomputable def zyh1029 : zH := (126, [zyr178, zyr179, zyr180, zyr181, zyr182, zyr802, zyr184, zyr185], zym9)
noncomputable def zyc882 : zC := .inr (8, [zyv120, zyv15, zyv15, zyv15, zyv120, zyv120, zyv120, zyv120, zyv15, zyv120, zyv15, zyv15, zyv125, zyv17, zyv319, zyv360, zyv166, zyv120, zyv120, zyv120, zyv15, zyv36, zyv127, zyv120, zyv15, zyv120, zyv120, zyv15, zyv15, zyv120, zyv120, zyv120, zyv120, zyv120, zyv120, zyv120, zyv120, zyv120, zyv120, zyv15, zyv120, zyv120, zyv120, zyv120, zyv15, zyv15, zyv15, zyv15, zyv120, zyv120, zyv120])
noncomputable def zyr803 : List zC := [zyc248, zyc248, zyc248, zyc240, zyc10, zyc10, zyc10, zyc12, zyc241, zyc8, zyc8, zyc241, zyc8, zyc8, zyc882, zyc250]
noncomputable def zyh1030 : zH := (126, [zyr178, zyr179, zyr180, zyr181, zyr182, zyr803, zyr184, zyr185], zym9)
noncomputable def zyc883 : zC := .inr (8, [zyv120, zyv15, zyv15, zyv15, zyv120, zyv120, zyv120, zyv120, zyv15, zyv120, zyv15, zyv15, zyv125, zyv17, zyv319, zyv360, zyv122, zyv120, zyv120, zyv120, zyv15, zyv36, zyv127, zyv120, zyv15, zyv120, zyv120, zyv15, zyv15, zyv120, zyv120, zyv120, zyv120, zyv120, zyv120, zyv120, zyv120, zyv120, zyv120, zyv15, zyv120, zyv120, zyv120, zyv120, zyv15, zyv15, zyv15, zyv15, zyv120, zyv120, zyv120])
noncomputable def zyr804 : List zC := [zyc248, zyc248, zyc248, zyc240, zyc10, zyc10, zyc10, zyc12, zyc241, zyc8, zyc8, zyc241, zyc8, zyc8, zyc883, zyc250]
noncomputable def zyh1031 : zH := (126, [zyr178, zyr179, zyr180, zyr181, zyr182, zyr804, zyr184, zyr185], 0)
noncomputable def zyh1032 : zH := (126, [zyr178, zyr179, zyr180, zyr181, zyr182, zyr804, zyr184, zyr185], zym9)
noncomputable def zyc884 : zC := .inr (8, [zyv120, zyv15, zyv15, zyv15, zyv120, zyv120, zyv120, zyv120, zyv15, zyv120, zyv15, zyv15, zyv125, zyv17, zyv319, zyv361, zyv166, zyv120, zyv120, zyv120, zyv15, zyv36, zyv127, zyv120, zyv15, zyv120, zyv120, zyv15, zyv15, zyv120, zyv120, zyv120, zyv120, zyv120, zyv120, zyv120, zyv120, zyv120, zyv120, zyv15, zyv120, zyv120, zyv120, zyv120, zyv15, zyv15, zyv15, zyv15, zyv120, zyv120, zyv120])
noncomputable def zyr805 : List zC := [zyc248, zyc248, zyc248, zyc240, zyc10, zyc10, zyc10, zyc12, zyc241, zyc8, zyc8, zyc241, zyc8, zyc8, zyc884, zyc250]
noncomputable def zyh1033 : zH := (126, [zyr178, zyr179, zyr180, zyr181, zyr182, zyr805, zyr184, zyr185], zym9)
noncomputable def zyc885 : zC := .inr (8, [zyv120, zyv15, zyv15, zyv15, zyv120, zyv120, zyv120, zyv120, zyv15, zyv120, zyv15, zyv15, zyv125, zyv17, zyv319, zyv361, zyv122, zyv120, zyv120, zyv120, zyv15, zyv36, zyv127, zyv120, zyv15, zyv120, zyv120, zyv15, zyv15, zyv120, zyv120, zyv120, zyv120, zyv120, zyv120, zyv120, zyv120, zyv120, zyv120, zyv15, zyv120, zyv120, zyv120, zyv120, zyv15, zyv15, zyv15, zyv15, zyv120, zyv120, zyv120])
noncomputable def zyr806 : List zC := [zyc248, zyc248, zyc248, zyc240, zyc10, zyc10, zyc10, zyc12, zyc241, zyc8, zyc8, zyc241, zyc8, zyc8, zyc885, zyc250]
noncomputable def zyh1034 : zH := (126, [zyr178, zyr179, zyr180, zyr181, zyr182, zyr806, zyr184, zyr185], 0)
noncomputable def zyh1035 : zH := (126, [zyr178, zyr179, zyr180, zyr181, zyr182, zyr806, zyr184, zyr185], zym9)
noncomputable def zyc886 : zC := .inr (8, [zyv120, zyv15, zyv15, zyv15, zyv120, zyv120, zyv120, zyv120, zyv15, zyv120, zyv15, zyv15, zyv125, zyv17, zyv319, zyv319, zyv166, zyv120, zyv120, zyv120, zyv15, zyv36, zyv127, zyv120, zyv15, zyv120, zyv120, zyv15, zyv15, zyv120, zyv120, zyv120, zyv120, zyv120, zyv120, zyv120, zyv120, zyv120, zyv120, zyv15, zyv120, zyv120, zyv120, zyv120, zyv15, zyv15, zyv15, zyv15, zyv120, zyv120, zyv120])
noncomputable def zyr807 : List zC := [zyc248, zyc248, zyc248, zyc240, zyc10, zyc10, zyc10, zyc12, zyc241, zyc8, zyc8, zyc241, zyc8, zyc8, zyc886, zyc250]
noncomputable def zyh1036 : zH := (126, [zyr178, zyr179, zyr180, zyr181, zyr182, zyr807, zyr184, zyr185], zym9)
noncomputable def zyc887 : zC := .inr (8, [zyv120, zyv15, zyv15, zyv15, zyv120, zyv120, zyv120, zyv120, zyv15, zyv120, zyv15, zyv15, zyv125, zyv17, zyv319, zyv319, zyv122, zyv120, zyv120, zyv120, zyv15, zyv36, zyv127, zyv120, zyv15, zyv120, zyv120, zyv15, zyv15, zyv120, zyv120, zyv120, zyv120, zyv120, zyv120, zyv120, zyv120, zyv120, zyv120, zyv15, zyv120, zyv120, zyv120, zyv120, zyv15, zyv15, zyv15, zyv15, zyv120, zyv120, zyv120])
noncomputable def zyr808 : List zC := [zyc248, zyc248, zyc248, zyc240, zyc10, zyc10, zyc10, zyc12, zyc241, zyc8, zyc8, zyc241, zyc8, zyc8, zyc887, zyc250]
noncomputable def zyh1037 : zH := (126, [zyr178, zyr179, zyr180, zyr181, zyr182, zyr808, zyr184, zyr185], 0)
noncomputable def zyh1038 : zH := (126, [zyr178, zyr179, zyr180, zyr181, zyr182, zyr808, zyr184, zyr185], zym9)
noncomputable def zyc888 : zC := .inr (8, [zyv120, zyv15, zyv15, zyv15, zyv120, zyv120, zyv120, zyv120, zyv15, zyv120, zyv15, zyv15, zyv125, zyv17, zyv319, zyv361, zyv17, zyv120, zyv120, zyv120, zyv15, zyv36, zyv127, zyv120, zyv15, zyv120, zyv120, zyv15, zyv15, zyv120, zyv120, zyv120, zyv120, zyv120, zyv120, zyv120, zyv120, zyv120, zyv120, zyv15, zyv120, zyv120, zyv120, zyv120, zyv15, zyv15, zyv15, zyv15, zyv120, zyv120, zyv120])
noncomputable def zyr809 : List zC := [zyc248, zyc248, zyc248, zyc240, zyc10, zyc10, zyc10, zyc12, zyc241, zyc8, zyc8, zyc241, zyc8, zyc8, zyc888, zyc250]
noncomputable def zyh1039 : zH := (126, [zyr178, zyr179, zyr180, zyr181, zyr182, zyr809, zyr184, zyr185], zym9)
noncomputable def zyc889 : zC := .inr (8, [zyv120, zyv15, zyv15, zyv15, zyv120, zyv120, zyv120, zyv120, zyv15, zyv120, zyv15, zyv15, zyv125, zyv17, zyv319, zyv360, zyv17, zyv120, zyv120, zyv120, zyv15, zyv36, zyv127, zyv120, zyv15, zyv120, zyv120, zyv15, zyv15, zyv120, zyv120, zyv120, zyv120, zyv120, zyv120, zyv120, zyv120, zyv120, zyv120, zyv15, zyv120, zyv120, zyv120, zyv120, zyv15, zyv15, zyv15, zyv15, zyv120, zyv120, zyv120])
noncomputable def zyr810 : List zC := [zyc248, zyc248, zyc248, zyc240, zyc10, zyc10, zyc10, zyc12, zyc241, zyc8, zyc8, zyc241, zyc8, zyc8, zyc889, zyc250]
noncomputable def zyh1040 : zH := (126, [zyr178, zyr179, zyr180, zyr181, zyr182, zyr810, zyr184, zyr185], zym9)
noncomputable def zyc890 : zC := .inr (8, [zyv120, zyv15, zyv15, zyv15, zyv120, zyv120, zyv120, zyv120, zyv15, zyv120, zyv15, zyv15, zyv125, zyv17, zyv319, zyv359, zyv17, zyv120, zyv120, zyv120, zyv15, zyv36, zyv127, zyv120, zyv15, zyv120, zyv120, zyv15, zyv15, zyv120, zyv120, zyv120, zyv120, zyv120, zyv120, zyv120, zyv120, zyv120, zyv120, zyv15, zyv120, zyv120, zyv120, zyv120, zyv15, zyv15, zyv15, zyv15, zyv120, zyv120, zyv120])
noncomputable def zyr811 : List zC := [zyc248, zyc248, zyc248, zyc240, zyc10, zyc10, zyc10, zyc12, zyc241, zyc8, zyc8, zyc241, zyc8, zyc8, zyc890, zyc250]
noncomputable def zyh1041 : zH := (126, [zyr178, zyr179, zyr180, zyr181, zyr182, zyr811, zyr184, zyr185], zym9)
noncomputable def zyc891 : zC := .inr (8, [zyv120, zyv15, zyv15, zyv15, zyv120, zyv120, zyv120, zyv120, zyv15, zyv120, zyv15, zyv15, zyv125, zyv17, zyv319, zyv358, zyv17, zyv120, zyv120, zyv120, zyv15, zyv36, zyv127, zyv120, zyv15, zyv120, zyv120, zyv15, zyv15, zyv120, zyv120, zyv120, zyv120, zyv120, zyv120, zyv120, zyv120, zyv120, zyv120, zyv15, zyv120, zyv120, zyv120, zyv120, zyv15, zyv15, zyv15, zyv15, zyv120, zyv120, zyv120])
noncomputable def zyr812 : List zC := [zyc248, zyc248, zyc248, zyc240, zyc10, zyc10, zyc10, zyc12, zyc241, zyc8, zyc8, zyc241, zyc8, zyc8, zyc891, zyc250]
noncomputable def zyh1042 : zH := (126, [zyr178, zyr179, zyr180, zyr181, zyr182, zyr812, zyr184, zyr185], zym9)
noncomputable def zyc892 : zC := .inr (8, [zyv120, zyv15, zyv15, zyv15, zyv120, zyv120, zyv120, zyv120, zyv15, zyv120, zyv15, zyv15, zyv125, zyv17, zyv319, zyv357, zyv17, zyv120, zyv120, zyv120, zyv15, zyv36, zyv127, zyv120, zyv15, zyv120, zyv120, zyv15, zyv15, zyv120, zyv120, zyv120, zyv120, zyv120, zyv120, zyv120, zyv120, zyv120, zyv120, zyv15, zyv120, zyv120, zyv120, zyv120, zyv15, zyv15, zyv15, zyv15, zyv120, zyv120, zyv120])
noncomputable def zyr813 : List zC := [zyc248, zyc248, zyc248, zyc240, zyc10, zyc10, zyc10, zyc12, zyc241, zyc8, zyc8, zyc241, zyc8, zyc8, zyc892, zyc250]
noncomputable def zyh1043 : zH := (126, [zyr178, zyr179, zyr180, zyr181, zyr182, zyr813, zyr184, zyr185], zym9)
noncomputable def zyc893 : zC := .inr (8, [zyv120, zyv15, zyv15, zyv15, zyv120, zyv120, zyv120, zyv120, zyv15, zyv120, zyv15, zyv15, zyv125, zyv17, zyv319, zyv356, zyv17, zyv120, zyv120, zyv120, zyv15, zyv36, zyv127, zyv120, zyv15, zyv120, zyv120, zyv15, zyv15, zyv120, zyv120, zyv120, zyv120, zyv120, zyv120, zyv120, zyv120, zyv120, zyv120, zyv15, zyv120, zyv120, zyv120, zyv120, zyv15, zyv15, zyv15, zyv15, zyv120, zyv120, zyv120])
noncomputable def zyr814 : List zC := [zyc248, zyc248, zyc248, zyc240, zyc10, zyc10, zyc10, zyc12, zyc241, zyc8, zyc8, zyc241, zyc8, zyc8, zyc893, zyc250]
noncomputable def zyh1044 : zH := (126, [zyr178, zyr179, zyr180, zyr181, zyr182, zyr814, zyr184, zyr185], zym9)
noncomputable def zyc894 : zC := .inr (8, [zyv120, zyv15, zyv15, zyv15, zyv120, zyv120, zyv120, zyv120, zyv15, zyv120, zyv15, zyv15, zyv125, zyv17, zyv319, zyv355, zyv17, zyv120, zyv120, zyv120, zyv15, zyv36, zyv127, zyv120, zyv15, zyv120, zyv120, zyv15, zyv15, zyv120, zyv120, zyv120, zyv120, zyv120, zyv120, zyv120, zyv120, zyv120, zyv120, zyv15, zyv120, zyv120, zyv120, zyv120, zyv15, zyv15, zyv15, zyv15, zyv120, zyv120, zyv120])
noncomputable def zyr815 : List zC := [zyc248, zyc248, zyc248, zyc240, zyc10, zyc10, zyc10, zyc12, zyc241, zyc8, zyc8, zyc241, zyc8, zyc8, zyc894, zyc250]
noncomputable def zyh1045 : zH := (126, [zyr178, zyr179, zyr180, zyr181, zyr182, zyr815, zyr184, zyr185], zym9)
/-! X7_hardOfRota -/
noncomputable def zyx776a : List zAV := [.inr (.inr (.inl 0)), .inr (.inr (.inl 10))]
def zyx776r : Option zAV := some (.inl ((.negSucc 2147483647, .ofNat 2147483647), none))
noncomputable def zyx776p : List zPw := [((4, ([(0, .inr (.inr (.inl 0))), (1, .inr (.inr (.inl 10))), (2, .inl ((.negSucc 2147483647, .ofNat 2147483647), some (2, .ofNat 0))), (3, .inl ((.ofNat 0, .ofNat 8), some (3, .ofNat 0)))], [], zyh898, 0, 0), [(3, .negSucc 1)], .ofNat 17), (zyx776r, zyh898), 5, 600)]
noncomputable def zyx776d : zKw := (130, 5, 5, 600, zyx776a, zyh897, [(zyx776r, zyh898)])
noncomputable def zbzyx776c : Bool := zchkX [] zprog2 (zovW [zyx298d, zyx297d]) 100000 k2X7_hardOfRota [] zyx776p zyx776p
noncomputable def zbzyx776e : Bool := zrunw zprog2 (zovW [zyx298d, zyx297d]) 100000 (zcutW [] none ((zyx776r, zyh898), 5, 600) zyx776p) 5 600 k2X7_hardOfRota (zkin zyx776r zyh898) 0 (zargs 0 zyx776a, [], (zyh897.1, zyh897.2.1, 0), 0, 0)
/-! X3_value -/
noncomputable def zyx777a : List zAV := [.inr (.inr (.inl 83)), .inr (.inr (.inl 7))]
def zyx777r : Option zAV := some (.inl ((.negSucc 2147483647, .ofNat 2147483647), none))
noncomputable def zyx777p : List zPw := [((4, ([(0, .inr (.inr (.inl 83))), (1, .inr (.inr (.inl 7))), (2, .inl ((.ofNat 0, .ofNat 40), some (2, .ofNat 0))), (3, .inl ((.ofNat 0, .ofNat 40), some (3, .ofNat 0)))], [], zyh899, 0, 0), [(3, .negSucc 1)], .ofNat 81), (zyx777r, zyh899), 3, 420)]
noncomputable def zyx777d : zKw := (58, 5, 3, 420, zyx777a, zyh897, [(zyx777r, zyh899)])
noncomputable def zbzyx777c : Bool := zchkX [] zprog2 (zovW []) 100000 k2X3_value [] zyx777p zyx777p
noncomputable def zbzyx777e : Bool := zrunw zprog2 (zovW []) 100000 (zcutW [] none ((zyx777r, zyh899), 3, 420) zyx777p) 3 420 k2X3_value (zkin zyx777r zyh899) 0 (zargs 0 zyx777a, [], (zyh897.1, zyh897.2.1, 0), 0, 0)
/-! X7_hardOfRota -/
noncomputable def zyx778a : List zAV := [.inr (.inr (.inl 0)), .inr (.inr (.inl 83))]
def zyx778r : Option zAV := some (.inl ((.negSucc 2147483647, .ofNat 2147483647), none))
noncomputable def zyx778p : List zPw := [((4, ([(0, .inr (.inr (.inl 0))), (1, .inr (.inr (.inl 83))), (2, .inl ((.negSucc 2147483647, .ofNat 2147483647), some (2, .ofNat 0))), (3, .inl ((.ofNat 0, .ofNat 8), some (3, .ofNat 0)))], [], zyh900, 0, 0), [(3, .negSucc 1)], .ofNat 17), (zyx778r, zyh900), 5, 600)]
noncomputable def zyx778d : zKw := (130, 5, 5, 600, zyx778a, zyh897, [(zyx778r, zyh900)])
noncomputable def zbzyx778c : Bool := zchkX [] zprog2 (zovW [zyx777d, zyx297d]) 100000 k2X7_hardOfRota [] zyx778p zyx778p
noncomputable def zbzyx778e : Bool := zrunw zprog2 (zovW [zyx777d, zyx297d]) 100000 (zcutW [] none ((zyx778r, zyh900), 5, 600) zyx778p) 5 600 k2X7_hardOfRota (zkin zyx778r zyh900) 0 (zargs 0 zyx778a, [], (zyh897.1, zyh897.2.1, 0), 0, 0)
/-! X7_law -/
noncomputable def zyx779a : List zAV := [.inr (.inr (.inl 0))]
def zyx779r : Option zAV := some (.inl ((.negSucc 2147483647, .ofNat 2147483647), none))
noncomputable def zyx779p : List zPw := []
noncomputable def zyx779d : zKw := (141, 4, 9, 960, zyx779a, zyh0, [(zyx779r, zyh901)])
noncomputable def zbzyx779e : Bool := zrunw zprog2 (zovW [zyx775d, zyx776d, zyx778d]) 100000 (zcutW [] none ((zyx779r, zyh901), 9, 960) zyx779p) 9 960 kX7_law (zkin zyx779r zyh901) 0 (zargs 0 zyx779a, [], (zyh0.1, zyh0.2.1, 0), 0, 0)
/-! X8_hardOfRota -/
noncomputable def zyx780a : List zAV := [.inr (.inr (.inl 94))]
def zyx780r : Option zAV := some (.inl ((.ofNat 0, .ofNat 7992), none))
noncomputable def zyx780p : List zPw := [((4, ([(0, .inr (.inr (.inl 94))), (1, .inl ((.ofNat 0, .ofNat 0), some (1, .ofNat 0))), (2, .inl ((.ofNat 0, .ofNat 0), some (2, .ofNat 0)))], [], zyh904, 0, 0), [(2, .negSucc 1)], .ofNat 17), (zyx780r, zyh903), 169, 20280),
  ((4, ([(0, .inr (.inr (.inl 94))), (1, .inl ((.ofNat 0, .ofNat 0), some (1, .ofNat 0))), (2, .inl ((.ofNat 0, .ofNat 0), some (2, .ofNat 0)))], [], zyh905, 0, 0), [(2, .negSucc 1)], .ofNat 17), (zyx780r, zyh903), 169, 20280),
  ((4, ([(0, .inr (.inr (.inl 94))), (1, .inl ((.ofNat 0, .ofNat 0), some (1, .ofNat 0))), (2, .inl ((.ofNat 0, .ofNat 0), some (2, .ofNat 0)))], [], zyh906, 0, 0), [(2, .negSucc 1)], .ofNat 17), (zyx780r, zyh903), 169, 20280),
  ((4, ([(0, .inr (.inr (.inl 94))), (1, .inl ((.ofNat 0, .ofNat 0), some (1, .ofNat 0))), (2, .inl ((.ofNat 0, .ofNat 0), some (2, .ofNat 0)))], [], zyh907, 0, 0), [(2, .negSucc 1)], .ofNat 17), (zyx780r, zyh903), 169, 20280),
  ((4, ([(0, .inr (.inr (.inl 94))), (1, .inl ((.ofNat 0, .ofNat 0), some (1, .ofNat 0))), (2, .inl ((.ofNat 0, .ofNat 0), some (2, .ofNat 0)))], [], zyh908, 0, 0), [(2, .negSucc 1)], .ofNat 17), (zyx780r, zyh903), 169, 20280),
  ((4, ([(0, .inr (.inr (.inl 94))), (1, .inl ((.ofNat 0, .ofNat 0), some (1, .ofNat 0))), (2, .inl ((.ofNat 0, .ofNat 0), some (2, .ofNat 0)))], [], zyh909, 0, 0), [(2, .negSucc 1)], .ofNat 17), (zyx780r, zyh903), 169, 20280),
  ((4, ([(0, .inr (.inr (.inl 94))), (1, .inl ((.ofNat 0, .ofNat 0), some (1, .ofNat 0))), (2, .inl ((.ofNat 0, .ofNat 0), some (2, .ofNat 0)))], [], zyh910, 0, 0), [(2, .negSucc 1)], .ofNat 17), (zyx780r, zyh903), 169, 20280),
  ((4, ([(0, .inr (.inr (.inl 94))), (1, .inl ((.ofNat 0, .ofNat 0), some (1, .ofNat 0))), (2, .inl ((.ofNat 0, .ofNat 0), some (2, .ofNat 0)))], [], zyh911, 0, 0), [(2, .negSucc 1)], .ofNat 17), (zyx780r, zyh903), 169, 20280),
  ((4, ([(0, .inr (.inr (.inl 94))), (1, .inl ((.ofNat 0, .ofNat 999), some (1, .ofNat 0))), (2, .inl ((.ofNat 1, .ofNat 1), some (2, .ofNat 0)))], [], zyh912, 0, 0), [(2, .negSucc 1)], .ofNat 17), (zyx780r, zyh903), 169, 20280),
  ((4, ([(0, .inr (.inr (.inl 94))), (1, .inl ((.ofNat 0, .ofNat 999), some (1, .ofNat 0))), (2, .inl ((.ofNat 1, .ofNat 1), some (2, .ofNat 0)))], [], zyh913, 0, 0), [(2, .negSucc 1)], .ofNat 17), (zyx780r, zyh903), 169, 20280),
  ((4, ([(0, .inr (.inr (.inl 94))), (1, .inl ((.ofNat 0, .ofNat 999), some (1, .ofNat 0))), (2, .inl ((.ofNat 1, .ofNat 1), some (2, .ofNat 0)))], [], zyh914, 0, 0), [(2, .negSucc 1)], .ofNat 17), (zyx780r, zyh903), 169, 20280),
  ((4, ([(0, .inr (.inr (.inl 94))), (1, .inl ((.ofNat 0, .ofNat 999), some (1, .ofNat 0))), (2, .inl ((.ofNat 1, .ofNat 1), some (2, .ofNat 0)))], [], zyh915, 0, 0), [(2, .negSucc 1)], .ofNat 17), (zyx780r, zyh903), 169, 20280),
  ((4, ([(0, .inr (.inr (.inl 94))), (1, .inl ((.ofNat 0, .ofNat 999), some (1, .ofNat 0))), (2, .inl ((.ofNat 1, .ofNat 1), some (2, .ofNat 0)))], [], zyh916, 0, 0), [(2, .negSucc 1)], .ofNat 17), (zyx780r, zyh903), 169, 20280),
  ((4, ([(0, .inr (.inr (.inl 94))), (1, .inl ((.ofNat 0, .ofNat 999), some (1, .ofNat 0))), (2, .inl ((.ofNat 1, .ofNat 1), some (2, .ofNat 0)))], [], zyh917, 0, 0), [(2, .negSucc 1)], .ofNat 17), (zyx780r, zyh903), 169, 20280),
  ((4, ([(0, .inr (.inr (.inl 94))), (1, .inl ((.ofNat 0, .ofNat 999), some (1, .ofNat 0))), (2, .inl ((.ofNat 1, .ofNat 1), some (2, .ofNat 0)))], [], zyh918, 0, 0), [(2, .negSucc 1)], .ofNat 17), (zyx780r, zyh903), 169, 20280),
  ((4, ([(0, .inr (.inr (.inl 94))), (1, .inl ((.ofNat 0, .ofNat 999), some (1, .ofNat 0))), (2, .inl ((.ofNat 1, .ofNat 1), some (2, .ofNat 0)))], [], zyh919, 0, 0), [(2, .negSucc 1)], .ofNat 17), (zyx780r, zyh903), 169, 20280),
  ((4, ([(0, .inr (.inr (.inl 94))), (1, .inl ((.ofNat 0, .ofNat 1998), some (1, .ofNat 0))), (2, .inl ((.ofNat 2, .ofNat 2), some (2, .ofNat 0)))], [], zyh913, 0, 0), [(2, .negSucc 1)], .ofNat 17), (zyx780r, zyh903), 169, 20280),
  ((4, ([(0, .inr (.inr (.inl 94))), (1, .inl ((.ofNat 0, .ofNat 1998), some (1, .ofNat 0))), (2, .inl ((.ofNat 2, .ofNat 2), some (2, .ofNat 0)))], [], zyh914, 0, 0), [(2, .negSucc 1)], .ofNat 17), (zyx780r, zyh903), 169, 20280),
  ((4, ([(0, .inr (.inr (.inl 94))), (1, .inl ((.ofNat 0, .ofNat 1998), some (1, .ofNat 0))), (2, .inl ((.ofNat 2, .ofNat 2), some (2, .ofNat 0)))], [], zyh915, 0, 0), [(2, .negSucc 1)], .ofNat 17), (zyx780r, zyh903), 169, 20280),
  ((4, ([(0, .inr (.inr (.inl 94))), (1, .inl ((.ofNat 0, .ofNat 1998), some (1, .ofNat 0))), (2, .inl ((.ofNat 2, .ofNat 2), some (2, .ofNat 0)))], [], zyh916, 0, 0), [(2, .negSucc 1)], .ofNat 17), (zyx780r, zyh903), 169, 20280),
  ((4, ([(0, .inr (.inr (.inl 94))), (1, .inl ((.ofNat 0, .ofNat 1998), some (1, .ofNat 0))), (2, .inl ((.ofNat 2, .ofNat 2), some (2, .ofNat 0)))], [], zyh917, 0, 0), [(2, .negSucc 1)], .ofNat 17), (zyx780r, zyh903), 169, 20280),
  ((4, ([(0, .inr (.inr (.inl 94))), (1, .inl ((.ofNat 0, .ofNat 1998), some (1, .ofNat 0))), (2, .inl ((.ofNat 2, .ofNat 2), some (2, .ofNat 0)))], [], zyh918, 0, 0), [(2, .negSucc 1)], .ofNat 17), (zyx780r, zyh903), 169, 20280),
  ((4, ([(0, .inr (.inr (.inl 94))), (1, .inl ((.ofNat 0, .ofNat 1998), some (1, .ofNat 0))), (2, .inl ((.ofNat 2, .ofNat 2), some (2, .ofNat 0)))], [], zyh919, 0, 0), [(2, .negSucc 1)], .ofNat 17), (zyx780r, zyh903), 169, 20280),
  ((4, ([(0, .inr (.inr (.inl 94))), (1, .inl ((.ofNat 0, .ofNat 2997), some (1, .ofNat 0))), (2, .inl ((.ofNat 3, .ofNat 3), some (2, .ofNat 0)))], [], zyh914, 0, 0), [(2, .negSucc 1)], .ofNat 17), (zyx780r, zyh903), 169, 20280),
  ((4, ([(0, .inr (.inr (.inl 94))), (1, .inl ((.ofNat 0, .ofNat 2997), some (1, .ofNat 0))), (2, .inl ((.ofNat 3, .ofNat 3), some (2, .ofNat 0)))], [], zyh915, 0, 0), [(2, .negSucc 1)], .ofNat 17), (zyx780r, zyh903), 169, 20280),
  ((4, ([(0, .inr (.inr (.inl 94))), (1, .inl ((.ofNat 0, .ofNat 2997), some (1, .ofNat 0))), (2, .inl ((.ofNat 3, .ofNat 3), some (2, .ofNat 0)))], [], zyh916, 0, 0), [(2, .negSucc 1)], .ofNat 17), (zyx780r, zyh903), 169, 20280),
  ((4, ([(0, .inr (.inr (.inl 94))), (1, .inl ((.ofNat 0, .ofNat 2997), some (1, .ofNat 0))), (2, .inl ((.ofNat 3, .ofNat 3), some (2, .ofNat 0)))], [], zyh917, 0, 0), [(2, .negSucc 1)], .ofNat 17), (zyx780r, zyh903), 169, 20280),
  ((4, ([(0, .inr (.inr (.inl 94))), (1, .inl ((.ofNat 0, .ofNat 2997), some (1, .ofNat 0))), (2, .inl ((.ofNat 3, .ofNat 3), some (2, .ofNat 0)))], [], zyh918, 0, 0), [(2, .negSucc 1)], .ofNat 17), (zyx780r, zyh903), 169, 20280),
  ((4, ([(0, .inr (.inr (.inl 94))), (1, .inl ((.ofNat 0, .ofNat 2997), some (1, .ofNat 0))), (2, .inl ((.ofNat 3, .ofNat 3), some (2, .ofNat 0)))], [], zyh919, 0, 0), [(2, .negSucc 1)], .ofNat 17), (zyx780r, zyh903), 169, 20280),
  ((4, ([(0, .inr (.inr (.inl 94))), (1, .inl ((.ofNat 0, .ofNat 3996), some (1, .ofNat 0))), (2, .inl ((.ofNat 4, .ofNat 4), some (2, .ofNat 0)))], [], zyh915, 0, 0), [(2, .negSucc 1)], .ofNat 17), (zyx780r, zyh903), 169, 20280),
  ((4, ([(0, .inr (.inr (.inl 94))), (1, .inl ((.ofNat 0, .ofNat 3996), some (1, .ofNat 0))), (2, .inl ((.ofNat 4, .ofNat 4), some (2, .ofNat 0)))], [], zyh916, 0, 0), [(2, .negSucc 1)], .ofNat 17), (zyx780r, zyh903), 169, 20280),
  ((4, ([(0, .inr (.inr (.inl 94))), (1, .inl ((.ofNat 0, .ofNat 3996), some (1, .ofNat 0))), (2, .inl ((.ofNat 4, .ofNat 4), some (2, .ofNat 0)))], [], zyh917, 0, 0), [(2, .negSucc 1)], .ofNat 17), (zyx780r, zyh903), 169, 20280),
  ((4, ([(0, .inr (.inr (.inl 94))), (1, .inl ((.ofNat 0, .ofNat 3996), some (1, .ofNat 0))), (2, .inl ((.ofNat 4, .ofNat 4), some (2, .ofNat 0)))], [], zyh918, 0, 0), [(2, .negSucc 1)], .ofNat 17), (zyx780r, zyh903), 169, 20280),
  ((4, ([(0, .inr (.inr (.inl 94))), (1, .inl ((.ofNat 0, .ofNat 3996), some (1, .ofNat 0))), (2, .inl ((.ofNat 4, .ofNat 4), some (2, .ofNat 0)))], [], zyh919, 0, 0), [(2, .negSucc 1)], .ofNat 17), (zyx780r, zyh903), 169, 20280),
  ((4, ([(0, .inr (.inr (.inl 94))), (1, .inl ((.ofNat 0, .ofNat 4995), some (1, .ofNat 0))), (2, .inl ((.ofNat 5, .ofNat 5), some (2, .ofNat 0)))], [], zyh916, 0, 0), [(2, .negSucc 1)], .ofNat 17), (zyx780r, zyh903), 169, 20280),
  ((4, ([(0, .inr (.inr (.inl 94))), (1, .inl ((.ofNat 0, .ofNat 4995), some (1, .ofNat 0))), (2, .inl ((.ofNat 5, .ofNat 5), some (2, .ofNat 0)))], [], zyh917, 0, 0), [(2, .negSucc 1)], .ofNat 17), (zyx780r, zyh903), 169, 20280),
  ((4, ([(0, .inr (.inr (.inl 94))), (1, .inl ((.ofNat 0, .ofNat 4995), some (1, .ofNat 0))), (2, .inl ((.ofNat 5, .ofNat 5), some (2, .ofNat 0)))], [], zyh918, 0, 0), [(2, .negSucc 1)], .ofNat 17), (zyx780r, zyh903), 169, 20280),
  ((4, ([(0, .inr (.inr (.inl 94))), (1, .inl ((.ofNat 0, .ofNat 4995), some (1, .ofNat 0))), (2, .inl ((.ofNat 5, .ofNat 5), some (2, .ofNat 0)))], [], zyh919, 0, 0), [(2, .negSucc 1)], .ofNat 17), (zyx780r, zyh903), 169, 20280),
  ((4, ([(0, .inr (.inr (.inl 94))), (1, .inl ((.ofNat 0, .ofNat 5994), some (1, .ofNat 0))), (2, .inl ((.ofNat 6, .ofNat 6), some (2, .ofNat 0)))], [], zyh917, 0, 0), [(2, .negSucc 1)], .ofNat 17), (zyx780r, zyh903), 169, 20280),
  ((4, ([(0, .inr (.inr (.inl 94))), (1, .inl ((.ofNat 0, .ofNat 5994), some (1, .ofNat 0))), (2, .inl ((.ofNat 6, .ofNat 6), some (2, .ofNat 0)))], [], zyh918, 0, 0), [(2, .negSucc 1)], .ofNat 17), (zyx780r, zyh903), 169, 20280),
  ((4, ([(0, .inr (.inr (.inl 94))), (1, .inl ((.ofNat 0, .ofNat 5994), some (1, .ofNat 0))), (2, .inl ((.ofNat 6, .ofNat 6), some (2, .ofNat 0)))], [], zyh919, 0, 0), [(2, .negSucc 1)], .ofNat 17), (zyx780r, zyh903), 169, 20280),
  ((4, ([(0, .inr (.inr (.inl 94))), (1, .inl ((.ofNat 0, .ofNat 6993), some (1, .ofNat 0))), (2, .inl ((.ofNat 7, .ofNat 7), some (2, .ofNat 0)))], [], zyh918, 0, 0), [(2, .negSucc 1)], .ofNat 17), (zyx780r, zyh903), 169, 20280),
  ((4, ([(0, .inr (.inr (.inl 94))), (1, .inl ((.ofNat 0, .ofNat 6993), some (1, .ofNat 0))), (2, .inl ((.ofNat 7, .ofNat 7), some (2, .ofNat 0)))], [], zyh919, 0, 0), [(2, .negSucc 1)], .ofNat 17), (zyx780r, zyh903), 169, 20280),
  ((4, ([(0, .inr (.inr (.inl 94))), (1, .inl ((.ofNat 0, .ofNat 7992), some (1, .ofNat 0))), (2, .inl ((.ofNat 8, .ofNat 8), some (2, .ofNat 0)))], [], zyh919, 0, 0), [(2, .negSucc 1)], .ofNat 17), (zyx780r, zyh903), 169, 20280)]
noncomputable def zyx780d : zKw := (226, 3, 169, 20280, zyx780a, zyh902, [(zyx780r, zyh903)])
noncomputable def zbzyx780c : Bool := zchkX [(94, 1)] zprog2 (zovW [zyx585d, zyx300d]) 100000 k2X8_hardOfRota [] zyx780p zyx780p
noncomputable def zbzyx780e : Bool := zrunw zprog2 (zovW [zyx585d, zyx300d]) 100000 (zcutW [(94, 1)] none ((zyx780r, zyh903), 169, 20280) zyx780p) 169 20280 k2X8_hardOfRota (zkin zyx780r zyh903) 0 (zargs 0 zyx780a, [], (zyh902.1, zyh902.2.1, 0), 0, 0)
/-! X8_passes -/
noncomputable def zyx781a : List zAV := [zyv320, zyv321]
noncomputable def zyx781q : List (Option zAV × zH) := [(some (.inl ((.ofNat 0, .ofNat 0), none)), zyh921), (some (.inl ((.ofNat 1, .ofNat 1), none)), zyh922)]
noncomputable def zyx781d : zKw := (263, 2, 3, 420, zyx781a, zyh920, zyx781q)
noncomputable def zbzyx781e : Bool := zrunw zprog2 (zovW []) 100000 zcut0 3 420 kX8_passes (zkinL zyx781q) 0 (zargs 0 zyx781a, [], (zyh920.1, zyh920.2.1, 0), 0, 0)
/-! X8_passes -/
noncomputable def zyx782a : List zAV := [zyv320, zyv323]
noncomputable def zyx782q : List (Option zAV × zH) := [(some (.inl ((.ofNat 0, .ofNat 0), none)), zyh924), (some (.inl ((.ofNat 1, .ofNat 1), none)), zyh925)]
noncomputable def zyx782d : zKw := (263, 2, 3, 420, zyx782a, zyh923, zyx782q)
noncomputable def zbzyx782e : Bool := zrunw zprog2 (zovW []) 100000 zcut0 3 420 kX8_passes (zkinL zyx782q) 0 (zargs 0 zyx782a, [], (zyh923.1, zyh923.2.1, 0), 0, 0)
/-! X8_passes -/
noncomputable def zyx783a : List zAV := [zyv320, zyv323]
noncomputable def zyx783q : List (Option zAV × zH) := [(some (.inl ((.ofNat 0, .ofNat 0), none)), zyh927), (some (.inl ((.ofNat 1, .ofNat 1), none)), zyh928)]
noncomputable def zyx783d : zKw := (263, 2, 3, 420, zyx783a, zyh926, zyx783q)
noncomputable def zbzyx783e : Bool := zrunw zprog2 (zovW []) 100000 zcut0 3 420 kX8_passes (zkinL zyx783q) 0 (zargs 0 zyx783a, [], (zyh926.1, zyh926.2.1, 0), 0, 0)
/-! X8_passes -/
noncomputable def zyx784a : List zAV := [zyv320, zyv323]
noncomputable def zyx784q : List (Option zAV × zH) := [(some (.inl ((.ofNat 0, .ofNat 0), none)), zyh930), (some (.inl ((.ofNat 1, .ofNat 1), none)), zyh931)]
noncomputable def zyx784d : zKw := (263, 2, 3, 420, zyx784a, zyh929, zyx784q)
noncomputable def zbzyx784e : Bool := zrunw zprog2 (zovW []) 100000 zcut0 3 420 kX8_passes (zkinL zyx784q) 0 (zargs 0 zyx784a, [], (zyh929.1, zyh929.2.1, 0), 0, 0)
/-! X8_passes -/
noncomputable def zyx785a : List zAV := [zyv320, zyv323]
noncomputable def zyx785q : List (Option zAV × zH) := [(some (.inl ((.ofNat 0, .ofNat 0), none)), zyh933), (some (.inl ((.ofNat 1, .ofNat 1), none)), zyh934)]
noncomputable def zyx785d : zKw := (263, 2, 3, 420, zyx785a, zyh932, zyx785q)
noncomputable def zbzyx785e : Bool := zrunw zprog2 (zovW []) 100000 zcut0 3 420 kX8_passes (zkinL zyx785q) 0 (zargs 0 zyx785a, [], (zyh932.1, zyh932.2.1, 0), 0, 0)
/-! X8_passes -/
noncomputable def zyx786a : List zAV := [zyv320, zyv323]
noncomputable def zyx786q : List (Option zAV × zH) := [(some (.inl ((.ofNat 0, .ofNat 0), none)), zyh936), (some (.inl ((.ofNat 1, .ofNat 1), none)), zyh937)]
noncomputable def zyx786d : zKw := (263, 2, 3, 420, zyx786a, zyh935, zyx786q)
noncomputable def zbzyx786e : Bool := zrunw zprog2 (zovW []) 100000 zcut0 3 420 kX8_passes (zkinL zyx786q) 0 (zargs 0 zyx786a, [], (zyh935.1, zyh935.2.1, 0), 0, 0)
/-! X8_passes -/
noncomputable def zyx787a : List zAV := [zyv320, zyv323]
noncomputable def zyx787q : List (Option zAV × zH) := [(some (.inl ((.ofNat 0, .ofNat 0), none)), zyh939), (some (.inl ((.ofNat 1, .ofNat 1), none)), zyh940)]
noncomputable def zyx787d : zKw := (263, 2, 3, 420, zyx787a, zyh938, zyx787q)
noncomputable def zbzyx787e : Bool := zrunw zprog2 (zovW []) 100000 zcut0 3 420 kX8_passes (zkinL zyx787q) 0 (zargs 0 zyx787a, [], (zyh938.1, zyh938.2.1, 0), 0, 0)
/-! X8_passes -/
noncomputable def zyx788a : List zAV := [zyv320, zyv323]
noncomputable def zyx788q : List (Option zAV × zH) := [(some (.inl ((.ofNat 0, .ofNat 0), none)), zyh942), (some (.inl ((.ofNat 1, .ofNat 1), none)), zyh943)]
noncomputable def zyx788d : zKw := (263, 2, 3, 420, zyx788a, zyh941, zyx788q)
noncomputable def zbzyx788e : Bool := zrunw zprog2 (zovW []) 100000 zcut0 3 420 kX8_passes (zkinL zyx788q) 0 (zargs 0 zyx788a, [], (zyh941.1, zyh941.2.1, 0), 0, 0)
/-! X8_passes -/
noncomputable def zyx789a : List zAV := [zyv320, zyv323]
noncomputable def zyx789q : List (Option zAV × zH) := [(some (.inl ((.ofNat 0, .ofNat 0), none)), zyh945), (some (.inl ((.ofNat 1, .ofNat 1), none)), zyh946)]
noncomputable def zyx789d : zKw := (263, 2, 3, 420, zyx789a, zyh944, zyx789q)
noncomputable def zbzyx789e : Bool := zrunw zprog2 (zovW []) 100000 zcut0 3 420 kX8_passes (zkinL zyx789q) 0 (zargs 0 zyx789a, [], (zyh944.1, zyh944.2.1, 0), 0, 0)
/-! X8_passes -/
noncomputable def zyx790a : List zAV := [zyv320, zyv323]
noncomputable def zyx790q : List (Option zAV × zH) := [(some (.inl ((.ofNat 0, .ofNat 0), none)), zyh948), (some (.inl ((.ofNat 1, .ofNat 1), none)), zyh949)]
noncomputable def zyx790d : zKw := (263, 2, 3, 420, zyx790a, zyh947, zyx790q)
noncomputable def zbzyx790e : Bool := zrunw zprog2 (zovW []) 100000 zcut0 3 420 kX8_passes (zkinL zyx790q) 0 (zargs 0 zyx790a, [], (zyh947.1, zyh947.2.1, 0), 0, 0)
/-! X8_passes -/
noncomputable def zyx791a : List zAV := [zyv320, zyv323]
noncomputable def zyx791q : List (Option zAV × zH) := [(some (.inl ((.ofNat 0, .ofNat 0), none)), zyh951), (some (.inl ((.ofNat 1, .ofNat 1), none)), zyh952)]
noncomputable def zyx791d : zKw := (263, 2, 3, 420, zyx791a, zyh950, zyx791q)
noncomputable def zbzyx791e : Bool := zrunw zprog2 (zovW []) 100000 zcut0 3 420 kX8_passes (zkinL zyx791q) 0 (zargs 0 zyx791a, [], (zyh950.1, zyh950.2.1, 0), 0, 0)
/-! X8_passes -/
noncomputable def zyx792a : List zAV := [zyv320, zyv323]
noncomputable def zyx792q : List (Option zAV × zH) := [(some (.inl ((.ofNat 0, .ofNat 0), none)), zyh954), (some (.inl ((.ofNat 1, .ofNat 1), none)), zyh955)]
noncomputable def zyx792d : zKw := (263, 2, 3, 420, zyx792a, zyh953, zyx792q)
noncomputable def zbzyx792e : Bool := zrunw zprog2 (zovW []) 100000 zcut0 3 420 kX8_passes (zkinL zyx792q) 0 (zargs 0 zyx792a, [], (zyh953.1, zyh953.2.1, 0), 0, 0)
/-! X8_passes -/
noncomputable def zyx793a : List zAV := [zyv320, zyv323]
noncomputable def zyx793q : List (Option zAV × zH) := [(some (.inl ((.ofNat 0, .ofNat 0), none)), zyh957), (some (.inl ((.ofNat 1, .ofNat 1), none)), zyh958)]
noncomputable def zyx793d : zKw := (263, 2, 3, 420, zyx793a, zyh956, zyx793q)
noncomputable def zbzyx793e : Bool := zrunw zprog2 (zovW []) 100000 zcut0 3 420 kX8_passes (zkinL zyx793q) 0 (zargs 0 zyx793a, [], (zyh956.1, zyh956.2.1, 0), 0, 0)
/-! X8_passes -/
noncomputable def zyx794a : List zAV := [zyv320, zyv323]
noncomputable def zyx794q : List (Option zAV × zH) := [(some (.inl ((.ofNat 0, .ofNat 0), none)), zyh960), (some (.inl ((.ofNat 1, .ofNat 1), none)), zyh961)]
noncomputable def zyx794d : zKw := (263, 2, 3, 420, zyx794a, zyh959, zyx794q)
noncomputable def zbzyx794e : Bool := zrunw zprog2 (zovW []) 100000 zcut0 3 420 kX8_passes (zkinL zyx794q) 0 (zargs 0 zyx794a, [], (zyh959.1, zyh959.2.1, 0), 0, 0)
/-! X8_passes -/
noncomputable def zyx795a : List zAV := [zyv320, zyv323]
noncomputable def zyx795q : List (Option zAV × zH) := [(some (.inl ((.ofNat 0, .ofNat 0), none)), zyh963), (some (.inl ((.ofNat 1, .ofNat 1), none)), zyh964)]
noncomputable def zyx795d : zKw := (263, 2, 3, 420, zyx795a, zyh962, zyx795q)
noncomputable def zbzyx795e : Bool := zrunw zprog2 (zovW []) 100000 zcut0 3 420 kX8_passes (zkinL zyx795q) 0 (zargs 0 zyx795a, [], (zyh962.1, zyh962.2.1, 0), 0, 0)
/-! X8_passes -/
noncomputable def zyx796a : List zAV := [zyv320, zyv323]
noncomputable def zyx796q : List (Option zAV × zH) := [(some (.inl ((.ofNat 0, .ofNat 0), none)), zyh966), (some (.inl ((.ofNat 1, .ofNat 1), none)), zyh967)]
noncomputable def zyx796d : zKw := (263, 2, 3, 420, zyx796a, zyh965, zyx796q)
noncomputable def zbzyx796e : Bool := zrunw zprog2 (zovW []) 100000 zcut0 3 420 kX8_passes (zkinL zyx796q) 0 (zargs 0 zyx796a, [], (zyh965.1, zyh965.2.1, 0), 0, 0)
/-! X8_passes -/
noncomputable def zyx797a : List zAV := [zyv320, zyv323]
noncomputable def zyx797q : List (Option zAV × zH) := [(some (.inl ((.ofNat 0, .ofNat 0), none)), zyh969), (some (.inl ((.ofNat 1, .ofNat 1), none)), zyh970)]
noncomputable def zyx797d : zKw := (263, 2, 3, 420, zyx797a, zyh968, zyx797q)
noncomputable def zbzyx797e : Bool := zrunw zprog2 (zovW []) 100000 zcut0 3 420 kX8_passes (zkinL zyx797q) 0 (zargs 0 zyx797a, [], (zyh968.1, zyh968.2.1, 0), 0, 0)
/-! X8_passes -/
noncomputable def zyx798a : List zAV := [zyv320, zyv323]
noncomputable def zyx798q : List (Option zAV × zH) := [(some (.inl ((.ofNat 0, .ofNat 0), none)), zyh972), (some (.inl ((.ofNat 1, .ofNat 1), none)), zyh973)]
noncomputable def zyx798d : zKw := (263, 2, 3, 420, zyx798a, zyh971, zyx798q)
noncomputable def zbzyx798e : Bool := zrunw zprog2 (zovW []) 100000 zcut0 3 420 kX8_passes (zkinL zyx798q) 0 (zargs 0 zyx798a, [], (zyh971.1, zyh971.2.1, 0), 0, 0)
/-! X8_passes -/
noncomputable def zyx799a : List zAV := [zyv320, zyv323]
noncomputable def zyx799q : List (Option zAV × zH) := [(some (.inl ((.ofNat 0, .ofNat 0), none)), zyh975), (some (.inl ((.ofNat 1, .ofNat 1), none)), zyh976)]
noncomputable def zyx799d : zKw := (263, 2, 3, 420, zyx799a, zyh974, zyx799q)
noncomputable def zbzyx799e : Bool := zrunw zprog2 (zovW []) 100000 zcut0 3 420 kX8_passes (zkinL zyx799q) 0 (zargs 0 zyx799a, [], (zyh974.1, zyh974.2.1, 0), 0, 0)
/-! X8_passes -/
noncomputable def zyx800a : List zAV := [zyv320, zyv323]
noncomputable def zyx800q : List (Option zAV × zH) := [(some (.inl ((.ofNat 0, .ofNat 0), none)), zyh978), (some (.inl ((.ofNat 1, .ofNat 1), none)), zyh979)]
noncomputable def zyx800d : zKw := (263, 2, 3, 420, zyx800a, zyh977, zyx800q)
noncomputable def zbzyx800e : Bool := zrunw zprog2 (zovW []) 100000 zcut0 3 420 kX8_passes (zkinL zyx800q) 0 (zargs 0 zyx800a, [], (zyh977.1, zyh977.2.1, 0), 0, 0)
/-! X8_passes -/
noncomputable def zyx801a : List zAV := [zyv320, zyv323]
noncomputable def zyx801q : List (Option zAV × zH) := [(some (.inl ((.ofNat 0, .ofNat 0), none)), zyh981), (some (.inl ((.ofNat 1, .ofNat 1), none)), zyh982)]
noncomputable def zyx801d : zKw := (263, 2, 3, 420, zyx801a, zyh980, zyx801q)
noncomputable def zbzyx801e : Bool := zrunw zprog2 (zovW []) 100000 zcut0 3 420 kX8_passes (zkinL zyx801q) 0 (zargs 0 zyx801a, [], (zyh980.1, zyh980.2.1, 0), 0, 0)
/-! X8_passes -/
noncomputable def zyx802a : List zAV := [zyv320, zyv323]
noncomputable def zyx802q : List (Option zAV × zH) := [(some (.inl ((.ofNat 0, .ofNat 0), none)), zyh984), (some (.inl ((.ofNat 1, .ofNat 1), none)), zyh985)]
noncomputable def zyx802d : zKw := (263, 2, 3, 420, zyx802a, zyh983, zyx802q)
noncomputable def zbzyx802e : Bool := zrunw zprog2 (zovW []) 100000 zcut0 3 420 kX8_passes (zkinL zyx802q) 0 (zargs 0 zyx802a, [], (zyh983.1, zyh983.2.1, 0), 0, 0)
/-! X8_passes -/
noncomputable def zyx803a : List zAV := [zyv320, zyv323]
noncomputable def zyx803q : List (Option zAV × zH) := [(some (.inl ((.ofNat 0, .ofNat 0), none)), zyh987), (some (.inl ((.ofNat 1, .ofNat 1), none)), zyh988)]
noncomputable def zyx803d : zKw := (263, 2, 3, 420, zyx803a, zyh986, zyx803q)
noncomputable def zbzyx803e : Bool := zrunw zprog2 (zovW []) 100000 zcut0 3 420 kX8_passes (zkinL zyx803q) 0 (zargs 0 zyx803a, [], (zyh986.1, zyh986.2.1, 0), 0, 0)
/-! X8_passes -/
noncomputable def zyx804a : List zAV := [zyv320, zyv323]
noncomputable def zyx804q : List (Option zAV × zH) := [(some (.inl ((.ofNat 0, .ofNat 0), none)), zyh990), (some (.inl ((.ofNat 1, .ofNat 1), none)), zyh991)]
noncomputable def zyx804d : zKw := (263, 2, 3, 420, zyx804a, zyh989, zyx804q)
noncomputable def zbzyx804e : Bool := zrunw zprog2 (zovW []) 100000 zcut0 3 420 kX8_passes (zkinL zyx804q) 0 (zargs 0 zyx804a, [], (zyh989.1, zyh989.2.1, 0), 0, 0)
/-! X8_passes -/
noncomputable def zyx805a : List zAV := [zyv320, zyv323]
noncomputable def zyx805q : List (Option zAV × zH) := [(some (.inl ((.ofNat 0, .ofNat 0), none)), zyh993), (some (.inl ((.ofNat 1, .ofNat 1), none)), zyh994)]
noncomputable def zyx805d : zKw := (263, 2, 3, 420, zyx805a, zyh992, zyx805q)
noncomputable def zbzyx805e : Bool := zrunw zprog2 (zovW []) 100000 zcut0 3 420 kX8_passes (zkinL zyx805q) 0 (zargs 0 zyx805a, [], (zyh992.1, zyh992.2.1, 0), 0, 0)
/-! X8_passes -/
noncomputable def zyx806a : List zAV := [zyv320, zyv323]
noncomputable def zyx806q : List (Option zAV × zH) := [(some (.inl ((.ofNat 0, .ofNat 0), none)), zyh996), (some (.inl ((.ofNat 1, .ofNat 1), none)), zyh997)]
noncomputable def zyx806d : zKw := (263, 2, 3, 420, zyx806a, zyh995, zyx806q)
noncomputable def zbzyx806e : Bool := zrunw zprog2 (zovW []) 100000 zcut0 3 420 kX8_passes (zkinL zyx806q) 0 (zargs 0 zyx806a, [], (zyh995.1, zyh995.2.1, 0), 0, 0)
/-! X8_passes -/
noncomputable def zyx807a : List zAV := [zyv320, zyv323]
noncomputable def zyx807q : List (Option zAV × zH) := [(some (.inl ((.ofNat 0, .ofNat 0), none)), zyh999), (some (.inl ((.ofNat 1, .ofNat 1), none)), zyh1000)]
noncomputable def zyx807d : zKw := (263, 2, 3, 420, zyx807a, zyh998, zyx807q)
noncomputable def zbzyx807e : Bool := zrunw zprog2 (zovW []) 100000 zcut0 3 420 kX8_passes (zkinL zyx807q) 0 (zargs 0 zyx807a, [], (zyh998.1, zyh998.2.1, 0), 0, 0)
/-! X8_passes -/
noncomputable def zyx808a : List zAV := [zyv320, zyv323]
noncomputable def zyx808q : List (Option zAV × zH) := [(some (.inl ((.ofNat 0, .ofNat 0), none)), zyh1002), (some (.inl ((.ofNat 1, .ofNat 1), none)), zyh1003)]
noncomputable def zyx808d : zKw := (263, 2, 3, 420, zyx808a, zyh1001, zyx808q)
noncomputable def zbzyx808e : Bool := zrunw zprog2 (zovW []) 100000 zcut0 3 420 kX8_passes (zkinL zyx808q) 0 (zargs 0 zyx808a, [], (zyh1001.1, zyh1001.2.1, 0), 0, 0)
/-! X8_passes -/
noncomputable def zyx809a : List zAV := [zyv320, zyv323]
noncomputable def zyx809q : List (Option zAV × zH) := [(some (.inl ((.ofNat 0, .ofNat 0), none)), zyh1005), (some (.inl ((.ofNat 1, .ofNat 1), none)), zyh1006)]
noncomputable def zyx809d : zKw := (263, 2, 3, 420, zyx809a, zyh1004, zyx809q)
noncomputable def zbzyx809e : Bool := zrunw zprog2 (zovW []) 100000 zcut0 3 420 kX8_passes (zkinL zyx809q) 0 (zargs 0 zyx809a, [], (zyh1004.1, zyh1004.2.1, 0), 0, 0)
/-! X8_passes -/
noncomputable def zyx810a : List zAV := [zyv320, zyv323]
noncomputable def zyx810q : List (Option zAV × zH) := [(some (.inl ((.ofNat 0, .ofNat 0), none)), zyh1008), (some (.inl ((.ofNat 1, .ofNat 1), none)), zyh1009)]
noncomputable def zyx810d : zKw := (263, 2, 3, 420, zyx810a, zyh1007, zyx810q)
noncomputable def zbzyx810e : Bool := zrunw zprog2 (zovW []) 100000 zcut0 3 420 kX8_passes (zkinL zyx810q) 0 (zargs 0 zyx810a, [], (zyh1007.1, zyh1007.2.1, 0), 0, 0)
/-! X8_passes -/
noncomputable def zyx811a : List zAV := [zyv320, zyv323]
noncomputable def zyx811q : List (Option zAV × zH) := [(some (.inl ((.ofNat 0, .ofNat 0), none)), zyh1011), (some (.inl ((.ofNat 1, .ofNat 1), none)), zyh1012)]
noncomputable def zyx811d : zKw := (263, 2, 3, 420, zyx811a, zyh1010, zyx811q)
noncomputable def zbzyx811e : Bool := zrunw zprog2 (zovW []) 100000 zcut0 3 420 kX8_passes (zkinL zyx811q) 0 (zargs 0 zyx811a, [], (zyh1010.1, zyh1010.2.1, 0), 0, 0)
/-! X8_passes -/
noncomputable def zyx812a : List zAV := [zyv320, zyv323]
noncomputable def zyx812q : List (Option zAV × zH) := [(some (.inl ((.ofNat 0, .ofNat 0), none)), zyh1014), (some (.inl ((.ofNat 1, .ofNat 1), none)), zyh1015)]
noncomputable def zyx812d : zKw := (263, 2, 3, 420, zyx812a, zyh1013, zyx812q)
noncomputable def zbzyx812e : Bool := zrunw zprog2 (zovW []) 100000 zcut0 3 420 kX8_passes (zkinL zyx812q) 0 (zargs 0 zyx812a, [], (zyh1013.1, zyh1013.2.1, 0), 0, 0)
/-! X8_passes -/
noncomputable def zyx813a : List zAV := [zyv320, zyv323]
noncomputable def zyx813q : List (Option zAV × zH) := [(some (.inl ((.ofNat 0, .ofNat 0), none)), zyh1017), (some (.inl ((.ofNat 1, .ofNat 1), none)), zyh1018)]
noncomputable def zyx813d : zKw := (263, 2, 3, 420, zyx813a, zyh1016, zyx813q)
noncomputable def zbzyx813e : Bool := zrunw zprog2 (zovW []) 100000 zcut0 3 420 kX8_passes (zkinL zyx813q) 0 (zargs 0 zyx813a, [], (zyh1016.1, zyh1016.2.1, 0), 0, 0)
/-! X8_passes -/
noncomputable def zyx814a : List zAV := [zyv320, zyv323]
noncomputable def zyx814q : List (Option zAV × zH) := [(some (.inl ((.ofNat 0, .ofNat 0), none)), zyh1020), (some (.inl ((.ofNat 1, .ofNat 1), none)), zyh1021)]
noncomputable def zyx814d : zKw := (263, 2, 3, 420, zyx814a, zyh1019, zyx814q)
noncomputable def zbzyx814e : Bool := zrunw zprog2 (zovW []) 100000 zcut0 3 420 kX8_passes (zkinL zyx814q) 0 (zargs 0 zyx814a, [], (zyh1019.1, zyh1019.2.1, 0), 0, 0)
/-! X8_passes -/
noncomputable def zyx815a : List zAV := [zyv320, zyv323]
noncomputable def zyx815q : List (Option zAV × zH) := [(some (.inl ((.ofNat 0, .ofNat 0), none)), zyh1023), (some (.inl ((.ofNat 1, .ofNat 1), none)), zyh1024)]
noncomputable def zyx815d : zKw := (263, 2, 3, 420, zyx815a, zyh1022, zyx815q)
noncomputable def zbzyx815e : Bool := zrunw zprog2 (zovW []) 100000 zcut0 3 420 kX8_passes (zkinL zyx815q) 0 (zargs 0 zyx815a, [], (zyh1022.1, zyh1022.2.1, 0), 0, 0)
/-! X8_passes -/
noncomputable def zyx816a : List zAV := [zyv320, zyv323]
noncomputable def zyx816q : List (Option zAV × zH) := [(some (.inl ((.ofNat 0, .ofNat 0), none)), zyh1026), (some (.inl ((.ofNat 1, .ofNat 1), none)), zyh1027)]
noncomputable def zyx816d : zKw := (263, 2, 3, 420, zyx816a, zyh1025, zyx816q)
noncomputable def zbzyx816e : Bool := zrunw zprog2 (zovW []) 100000 zcut0 3 420 kX8_passes (zkinL zyx816q) 0 (zargs 0 zyx816a, [], (zyh1025.1, zyh1025.2.1, 0), 0, 0)
/-! X8_passes -/
noncomputable def zyx817a : List zAV := [zyv320, zyv323]
noncomputable def zyx817q : List (Option zAV × zH) := [(some (.inl ((.ofNat 0, .ofNat 0), none)), zyh1029), (some (.inl ((.ofNat 1, .ofNat 1), none)), zyh1030)]
noncomputable def zyx817d : zKw := (263, 2, 3, 420, zyx817a, zyh1028, zyx817q)
noncomputable def zbzyx817e : Bool := zrunw zprog2 (zovW []) 100000 zcut0 3 420 kX8_passes (zkinL zyx817q) 0 (zargs 0 zyx817a, [], (zyh1028.1, zyh1028.2.1, 0), 0, 0)
/-! X8_passes -/
noncomputable def zyx818a : List zAV := [zyv320, zyv323]
noncomputable def zyx818q : List (Option zAV × zH) := [(some (.inl ((.ofNat 0, .ofNat 0), none)), zyh1032), (some (.inl ((.ofNat 1, .ofNat 1), none)), zyh1033)]
noncomputable def zyx818d : zKw := (263, 2, 3, 420, zyx818a, zyh1031, zyx818q)
noncomputable def zbzyx818e : Bool := zrunw zprog2 (zovW []) 100000 zcut0 3 420 kX8_passes (zkinL zyx818q) 0 (zargs 0 zyx818a, [], (zyh1031.1, zyh1031.2.1, 0), 0, 0)
/-! X8_passes -/
noncomputable def zyx819a : List zAV := [zyv320, zyv323]
noncomputable def zyx819q : List (Option zAV × zH) := [(some (.inl ((.ofNat 0, .ofNat 0), none)), zyh1035), (some (.inl ((.ofNat 1, .ofNat 1), none)), zyh1036)]
noncomputable def zyx819d : zKw := (263, 2, 3, 420, zyx819a, zyh1034, zyx819q)
noncomputable def zbzyx819e : Bool := zrunw zprog2 (zovW []) 100000 zcut0 3 420 kX8_passes (zkinL zyx819q) 0 (zargs 0 zyx819a, [], (zyh1034.1, zyh1034.2.1, 0), 0, 0)
/-! X8_passes -/
noncomputable def zyx820a : List zAV := [zyv320, zyv323]
noncomputable def zyx820q : List (Option zAV × zH) := [(some (.inl ((.ofNat 0, .ofNat 0), none)), zyh1038)]
noncomputable def zyx820d : zKw := (263, 2, 3, 420, zyx820a, zyh1037, zyx820q)
noncomputable def zbzyx820e : Bool := zrunw zprog2 (zovW []) 100000 zcut0 3 420 kX8_passes (zkinL zyx820q) 0 (zargs 0 zyx820a, [], (zyh1037.1, zyh1037.2.1, 0), 0, 0)
/-! X8_thing -/
noncomputable def zyx821a : List zAV := [.inr (.inr (.inl 94)), .inl ((.ofNat 0, .ofNat 4), none)]
def zyx821r : Option zAV := some (.inl ((.negSucc 2147483647, .ofNat 2147483647), none))
noncomputable def zyx821p : List zPw := []
noncomputable def zyx821d : zKw := (292, 4, 4, 540, zyx821a, zyh1037, [(zyx821r, zyh1038)])
noncomputable def zbzyx821e : Bool := zrunw zprog2 (zovW [zyx820d]) 100000 (zcutW [] none ((zyx821r, zyh1038), 4, 540) zyx821p) 4 540 k2X8_thing (zkin zyx821r zyh1038) 0 (zargs 0 zyx821a, [], (zyh1037.1, zyh1037.2.1, 0), 0, 0)
/-! X8_product ((('r', 103), 40, 40),) -/
noncomputable def zyx822a : List zAV := [.inr (.inr (.inl 94)), .inl ((.ofNat 0, .ofNat 4), none)]
def zyx822r : Option zAV := some (.inl ((.negSucc 2147483647, .ofNat 2147483647), none))
noncomputable def zyx822q : zPw := ((6, ([(0, .inr (.inr (.inl 94))), (1, .inl ((.ofNat 0, .ofNat 4), some (1, .ofNat 0))), (2, .inl ((.negSucc 2147483647, .ofNat 2147483647), some (2, .ofNat 0)))], [], zyh1038, 0, 0), [], 0), (zyx822r, zyh1038), 5, 660)
noncomputable def zbzyx822c : Bool := zchkX [(94, 15)] zprog2 (zovW [zyx821d]) 100000 k2X8_product [] [zyx822q] [zyx822q]
noncomputable def zyx822d : zKw := (265, 5, 5, 660, zyx822a, zyh1037, [(zyx822r, zyh1038)])
noncomputable def zbzyx822e : Bool := zrunw zprog2 (zovW [zyx821d]) 100000 (zcutW [(94, 15)] none ((zyx822r, zyh1038), 5, 660) [zyx822q]) 5 660 k2X8_product (zkin zyx822r zyh1038) 0 (zargs 0 zyx822a, [], (zyh1037.1, zyh1037.2.1, 0), 0, 0)
/-! X8_sum ((('r', 103), 40, 40),) -/
noncomputable def zyx823a : List zAV := [.inr (.inr (.inl 94)), .inl ((.ofNat 1, .ofNat 4), none)]
def zyx823r : Option zAV := some (.inl ((.negSucc 2147483647, .ofNat 2147483647), none))
noncomputable def zyx823q : zPw := ((6, ([(0, .inr (.inr (.inl 94))), (1, .inl ((.ofNat 0, .ofNat 4), some (1, .ofNat 0))), (2, .inl ((.negSucc 2147483647, .ofNat 2147483647), some (2, .ofNat 0)))], [], zyh1038, 0, 0), [], 0), (zyx823r, zyh1038), 6, 780)
noncomputable def zbzyx823c : Bool := zchkX [(94, 15)] zprog2 (zovW [zyx822d]) 100000 kX8_sum [] [zyx823q] [zyx823q]
noncomputable def zyx823d : zKw := (284, 5, 6, 780, zyx823a, zyh1037, [(zyx823r, zyh1038)])
noncomputable def zbzyx823e : Bool := zrunw zprog2 (zovW [zyx822d]) 100000 (zcutW [(94, 15)] none ((zyx823r, zyh1038), 6, 780) [zyx823q]) 6 780 kX8_sum (zkin zyx823r zyh1038) 0 (zargs 0 zyx823a, [], (zyh1037.1, zyh1037.2.1, 0), 0, 0)
/-! X8_heldBy -/
noncomputable def zyx824a : List zAV := [.inr (.inr (.inl 94)), .inl ((.ofNat 1, .ofNat 4), none)]
def zyx824r : Option zAV := some (.inl ((.negSucc 2147483647, .ofNat 2147483647), none))
noncomputable def zyx824p : List zPw := []
noncomputable def zyx824d : zKw := (229, 3, 7, 900, zyx824a, zyh1037, [(zyx824r, zyh1038)])
noncomputable def zbzyx824e : Bool := zrunw zprog2 (zovW [zyx823d, zyx820d]) 100000 (zcutW [] none ((zyx824r, zyh1038), 7, 900) zyx824p) 7 900 kX8_heldBy (zkin zyx824r zyh1038) 0 (zargs 0 zyx824a, [], (zyh1037.1, zyh1037.2.1, 0), 0, 0)
/-! X8_oneOf -/
noncomputable def zyx825a : List zAV := [zyv320, zyv362, zyv363]
noncomputable def zyx825q : List (Option zAV × zH) := [(some (.inl ((.ofNat 0, .ofNat 0), none)), zyh1039), (some (.inl ((.negSucc 175, .ofNat 79), none)), zyh1036)]
noncomputable def zyx825d : zKw := (260, 3, 4, 480, zyx825a, zyh1034, zyx825q)
noncomputable def zbzyx825e : Bool := zrunw zprog2 (zovW []) 100000 zcut0 4 480 kX8_oneOf (zkinL zyx825q) 0 (zargs 0 zyx825a, [], (zyh1034.1, zyh1034.2.1, 0), 0, 0)
/-! X8_number -/
noncomputable def zyx826a : List zAV := [.inr (.inr (.inl 94)), .inl ((.ofNat 3, .ofNat 3), none)]
def zyx826r : Option zAV := some (.inl ((.negSucc 2147483647, .ofNat 2147483647), none))
noncomputable def zyx826p : List zPw := [((11, ([(0, .inr (.inr (.inl 94))), (1, .inl ((.ofNat 3, .ofNat 3), some (1, .ofNat 0))), (2, .inl ((.negSucc 2147483647, .ofNat 2147483647), some (2, .ofNat 0))), (3, .inl ((.ofNat 1, .ofNat 3), some (3, .ofNat 0)))], [], zyh1035, 0, 0), [(3, .negSucc 1)], .ofNat 7), (zyx826r, zyh1035), 5, 600)]
noncomputable def zyx826d : zKw := (259, 4, 5, 600, zyx826a, zyh1034, [(zyx826r, zyh1035)])
noncomputable def zbzyx826c : Bool := zchkX [] zprog2 (zovW [zyx825d]) 100000 kX8_number [] zyx826p zyx826p
noncomputable def zbzyx826e : Bool := zrunw zprog2 (zovW [zyx825d]) 100000 (zcutW [] none ((zyx826r, zyh1035), 5, 600) zyx826p) 5 600 kX8_number (zkin zyx826r zyh1035) 0 (zargs 0 zyx826a, [], (zyh1034.1, zyh1034.2.1, 0), 0, 0)
/-! X8_thing -/
noncomputable def zyx827a : List zAV := [.inr (.inr (.inl 94)), .inl ((.ofNat 0, .ofNat 4), none)]
def zyx827r : Option zAV := some (.inl ((.negSucc 2147483647, .ofNat 2147483647), none))
noncomputable def zyx827p : List zPw := []
noncomputable def zyx827d : zKw := (292, 4, 8, 1020, zyx827a, zyh1034, [(zyx827r, zyh1035)])
noncomputable def zbzyx827e : Bool := zrunw zprog2 (zovW [zyx824d, zyx821d, zyx820d, zyx826d, zyx819d]) 100000 (zcutW [] none ((zyx827r, zyh1035), 8, 1020) zyx827p) 8 1020 k2X8_thing (zkin zyx827r zyh1035) 0 (zargs 0 zyx827a, [], (zyh1034.1, zyh1034.2.1, 0), 0, 0)
/-! X8_product ((('r', 103), 40, 39),) -/
noncomputable def zyx828a : List zAV := [.inr (.inr (.inl 94)), .inl ((.ofNat 0, .ofNat 4), none)]
def zyx828r : Option zAV := some (.inl ((.negSucc 2147483647, .ofNat 2147483647), none))
noncomputable def zyx828q : zPw := ((6, ([(0, .inr (.inr (.inl 94))), (1, .inl ((.ofNat 0, .ofNat 4), some (1, .ofNat 0))), (2, .inl ((.negSucc 2147483647, .ofNat 2147483647), some (2, .ofNat 0)))], [], zyh1035, 0, 0), [], 0), (zyx828r, zyh1035), 9, 1140)
noncomputable def zbzyx828c : Bool := zchkX [(94, 15)] zprog2 (zovW [zyx821d, zyx827d]) 100000 k2X8_product [zyx822q] [zyx828q] [zyx828q]
noncomputable def zyx828d : zKw := (265, 5, 9, 1140, zyx828a, zyh1034, [(zyx828r, zyh1035)])
noncomputable def zbzyx828e : Bool := zrunw zprog2 (zovW [zyx821d, zyx827d]) 100000 (zcutW [(94, 15)] none ((zyx828r, zyh1035), 9, 1140) [zyx828q, zyx822q]) 9 1140 k2X8_product (zkin zyx828r zyh1035) 0 (zargs 0 zyx828a, [], (zyh1034.1, zyh1034.2.1, 0), 0, 0)
/-! X8_sum ((('r', 103), 40, 39),) -/
noncomputable def zyx829a : List zAV := [.inr (.inr (.inl 94)), .inl ((.ofNat 1, .ofNat 4), none)]
def zyx829r : Option zAV := some (.inl ((.negSucc 2147483647, .ofNat 2147483647), none))
noncomputable def zyx829q : zPw := ((6, ([(0, .inr (.inr (.inl 94))), (1, .inl ((.ofNat 0, .ofNat 4), some (1, .ofNat 0))), (2, .inl ((.negSucc 2147483647, .ofNat 2147483647), some (2, .ofNat 0)))], [], zyh1035, 0, 0), [], 0), (zyx829r, zyh1035), 10, 1260)
noncomputable def zbzyx829c : Bool := zchkX [(94, 15)] zprog2 (zovW [zyx822d, zyx828d]) 100000 kX8_sum [zyx823q] [zyx829q] [zyx829q]
noncomputable def zyx829d : zKw := (284, 5, 10, 1260, zyx829a, zyh1034, [(zyx829r, zyh1035)])
noncomputable def zbzyx829e : Bool := zrunw zprog2 (zovW [zyx822d, zyx828d]) 100000 (zcutW [(94, 15)] none ((zyx829r, zyh1035), 10, 1260) [zyx829q, zyx823q]) 10 1260 kX8_sum (zkin zyx829r zyh1035) 0 (zargs 0 zyx829a, [], (zyh1034.1, zyh1034.2.1, 0), 0, 0)
/-! X8_heldBy -/
noncomputable def zyx830a : List zAV := [.inr (.inr (.inl 94)), .inl ((.ofNat 1, .ofNat 4), none)]
def zyx830r : Option zAV := some (.inl ((.negSucc 2147483647, .ofNat 2147483647), none))
noncomputable def zyx830p : List zPw := []
noncomputable def zyx830d : zKw := (229, 3, 11, 1380, zyx830a, zyh1034, [(zyx830r, zyh1035)])
noncomputable def zbzyx830e : Bool := zrunw zprog2 (zovW [zyx823d, zyx829d, zyx819d]) 100000 (zcutW [] none ((zyx830r, zyh1035), 11, 1380) zyx830p) 11 1380 kX8_heldBy (zkin zyx830r zyh1035) 0 (zargs 0 zyx830a, [], (zyh1034.1, zyh1034.2.1, 0), 0, 0)
/-! X8_oneOf -/
noncomputable def zyx831a : List zAV := [zyv320, zyv362, zyv363]
noncomputable def zyx831q : List (Option zAV × zH) := [(some (.inl ((.ofNat 0, .ofNat 0), none)), zyh1040), (some (.inl ((.negSucc 175, .ofNat 79), none)), zyh1033)]
noncomputable def zyx831d : zKw := (260, 3, 4, 480, zyx831a, zyh1031, zyx831q)
noncomputable def zbzyx831e : Bool := zrunw zprog2 (zovW []) 100000 zcut0 4 480 kX8_oneOf (zkinL zyx831q) 0 (zargs 0 zyx831a, [], (zyh1031.1, zyh1031.2.1, 0), 0, 0)
/-! X8_number -/
noncomputable def zyx832a : List zAV := [.inr (.inr (.inl 94)), .inl ((.ofNat 3, .ofNat 3), none)]
def zyx832r : Option zAV := some (.inl ((.negSucc 2147483647, .ofNat 2147483647), none))
noncomputable def zyx832p : List zPw := [((11, ([(0, .inr (.inr (.inl 94))), (1, .inl ((.ofNat 3, .ofNat 3), some (1, .ofNat 0))), (2, .inl ((.negSucc 2147483647, .ofNat 2147483647), some (2, .ofNat 0))), (3, .inl ((.ofNat 1, .ofNat 3), some (3, .ofNat 0)))], [], zyh1032, 0, 0), [(3, .negSucc 1)], .ofNat 7), (zyx832r, zyh1032), 5, 600)]
noncomputable def zyx832d : zKw := (259, 4, 5, 600, zyx832a, zyh1031, [(zyx832r, zyh1032)])
noncomputable def zbzyx832c : Bool := zchkX [] zprog2 (zovW [zyx831d]) 100000 kX8_number [] zyx832p zyx832p
noncomputable def zbzyx832e : Bool := zrunw zprog2 (zovW [zyx831d]) 100000 (zcutW [] none ((zyx832r, zyh1032), 5, 600) zyx832p) 5 600 kX8_number (zkin zyx832r zyh1032) 0 (zargs 0 zyx832a, [], (zyh1031.1, zyh1031.2.1, 0), 0, 0)
/-! X8_thing -/
noncomputable def zyx833a : List zAV := [.inr (.inr (.inl 94)), .inl ((.ofNat 0, .ofNat 4), none)]
def zyx833r : Option zAV := some (.inl ((.negSucc 2147483647, .ofNat 2147483647), none))
noncomputable def zyx833p : List zPw := []
noncomputable def zyx833d : zKw := (292, 4, 12, 1500, zyx833a, zyh1031, [(zyx833r, zyh1032)])
noncomputable def zbzyx833e : Bool := zrunw zprog2 (zovW [zyx830d, zyx827d, zyx819d, zyx832d, zyx818d]) 100000 (zcutW [] none ((zyx833r, zyh1032), 12, 1500) zyx833p) 12 1500 k2X8_thing (zkin zyx833r zyh1032) 0 (zargs 0 zyx833a, [], (zyh1031.1, zyh1031.2.1, 0), 0, 0)
/-! X8_product ((('r', 103), 40, 38),) -/
noncomputable def zyx834a : List zAV := [.inr (.inr (.inl 94)), .inl ((.ofNat 0, .ofNat 4), none)]
def zyx834r : Option zAV := some (.inl ((.negSucc 2147483647, .ofNat 2147483647), none))
noncomputable def zyx834q : zPw := ((6, ([(0, .inr (.inr (.inl 94))), (1, .inl ((.ofNat 0, .ofNat 4), some (1, .ofNat 0))), (2, .inl ((.negSucc 2147483647, .ofNat 2147483647), some (2, .ofNat 0)))], [], zyh1032, 0, 0), [], 0), (zyx834r, zyh1032), 13, 1620)
noncomputable def zbzyx834c : Bool := zchkX [(94, 15)] zprog2 (zovW [zyx827d, zyx833d]) 100000 k2X8_product [zyx828q, zyx822q] [zyx834q] [zyx834q]
noncomputable def zyx834d : zKw := (265, 5, 13, 1620, zyx834a, zyh1031, [(zyx834r, zyh1032)])
noncomputable def zbzyx834e : Bool := zrunw zprog2 (zovW [zyx827d, zyx833d]) 100000 (zcutW [(94, 15)] none ((zyx834r, zyh1032), 13, 1620) [zyx834q, zyx828q, zyx822q]) 13 1620 k2X8_product (zkin zyx834r zyh1032) 0 (zargs 0 zyx834a, [], (zyh1031.1, zyh1031.2.1, 0), 0, 0)
/-! X8_sum ((('r', 103), 40, 38),) -/
noncomputable def zyx835a : List zAV := [.inr (.inr (.inl 94)), .inl ((.ofNat 1, .ofNat 4), none)]
def zyx835r : Option zAV := some (.inl ((.negSucc 2147483647, .ofNat 2147483647), none))
noncomputable def zyx835q : zPw := ((6, ([(0, .inr (.inr (.inl 94))), (1, .inl ((.ofNat 0, .ofNat 4), some (1, .ofNat 0))), (2, .inl ((.negSucc 2147483647, .ofNat 2147483647), some (2, .ofNat 0)))], [], zyh1032, 0, 0), [], 0), (zyx835r, zyh1032), 14, 1740)
noncomputable def zbzyx835c : Bool := zchkX [(94, 15)] zprog2 (zovW [zyx828d, zyx834d]) 100000 kX8_sum [zyx829q, zyx823q] [zyx835q] [zyx835q]
noncomputable def zyx835d : zKw := (284, 5, 14, 1740, zyx835a, zyh1031, [(zyx835r, zyh1032)])
noncomputable def zbzyx835e : Bool := zrunw zprog2 (zovW [zyx828d, zyx834d]) 100000 (zcutW [(94, 15)] none ((zyx835r, zyh1032), 14, 1740) [zyx835q, zyx829q, zyx823q]) 14 1740 kX8_sum (zkin zyx835r zyh1032) 0 (zargs 0 zyx835a, [], (zyh1031.1, zyh1031.2.1, 0), 0, 0)
/-! X8_heldBy -/
noncomputable def zyx836a : List zAV := [.inr (.inr (.inl 94)), .inl ((.ofNat 1, .ofNat 4), none)]
def zyx836r : Option zAV := some (.inl ((.negSucc 2147483647, .ofNat 2147483647), none))
noncomputable def zyx836p : List zPw := []
noncomputable def zyx836d : zKw := (229, 3, 15, 1860, zyx836a, zyh1031, [(zyx836r, zyh1032)])
noncomputable def zbzyx836e : Bool := zrunw zprog2 (zovW [zyx829d, zyx835d, zyx818d]) 100000 (zcutW [] none ((zyx836r, zyh1032), 15, 1860) zyx836p) 15 1860 kX8_heldBy (zkin zyx836r zyh1032) 0 (zargs 0 zyx836a, [], (zyh1031.1, zyh1031.2.1, 0), 0, 0)
/-! X8_oneOf -/
noncomputable def zyx837a : List zAV := [zyv320, zyv362, zyv363]
noncomputable def zyx837q : List (Option zAV × zH) := [(some (.inl ((.ofNat 0, .ofNat 0), none)), zyh1041), (some (.inl ((.negSucc 175, .ofNat 79), none)), zyh1030)]
noncomputable def zyx837d : zKw := (260, 3, 4, 480, zyx837a, zyh1028, zyx837q)
noncomputable def zbzyx837e : Bool := zrunw zprog2 (zovW []) 100000 zcut0 4 480 kX8_oneOf (zkinL zyx837q) 0 (zargs 0 zyx837a, [], (zyh1028.1, zyh1028.2.1, 0), 0, 0)
/-! X8_number -/
noncomputable def zyx838a : List zAV := [.inr (.inr (.inl 94)), .inl ((.ofNat 3, .ofNat 3), none)]
def zyx838r : Option zAV := some (.inl ((.negSucc 2147483647, .ofNat 2147483647), none))
noncomputable def zyx838p : List zPw := [((11, ([(0, .inr (.inr (.inl 94))), (1, .inl ((.ofNat 3, .ofNat 3), some (1, .ofNat 0))), (2, .inl ((.negSucc 2147483647, .ofNat 2147483647), some (2, .ofNat 0))), (3, .inl ((.ofNat 1, .ofNat 3), some (3, .ofNat 0)))], [], zyh1029, 0, 0), [(3, .negSucc 1)], .ofNat 7), (zyx838r, zyh1029), 5, 600)]
noncomputable def zyx838d : zKw := (259, 4, 5, 600, zyx838a, zyh1028, [(zyx838r, zyh1029)])
noncomputable def zbzyx838c : Bool := zchkX [] zprog2 (zovW [zyx837d]) 100000 kX8_number [] zyx838p zyx838p
noncomputable def zbzyx838e : Bool := zrunw zprog2 (zovW [zyx837d]) 100000 (zcutW [] none ((zyx838r, zyh1029), 5, 600) zyx838p) 5 600 kX8_number (zkin zyx838r zyh1029) 0 (zargs 0 zyx838a, [], (zyh1028.1, zyh1028.2.1, 0), 0, 0)
/-! X8_thing -/
noncomputable def zyx839a : List zAV := [.inr (.inr (.inl 94)), .inl ((.ofNat 0, .ofNat 4), none)]
def zyx839r : Option zAV := some (.inl ((.negSucc 2147483647, .ofNat 2147483647), none))
noncomputable def zyx839p : List zPw := []
noncomputable def zyx839d : zKw := (292, 4, 16, 1980, zyx839a, zyh1028, [(zyx839r, zyh1029)])
noncomputable def zbzyx839e : Bool := zrunw zprog2 (zovW [zyx836d, zyx833d, zyx818d, zyx838d, zyx817d]) 100000 (zcutW [] none ((zyx839r, zyh1029), 16, 1980) zyx839p) 16 1980 k2X8_thing (zkin zyx839r zyh1029) 0 (zargs 0 zyx839a, [], (zyh1028.1, zyh1028.2.1, 0), 0, 0)
/-! X8_product ((('r', 103), 40, 37),) -/
noncomputable def zyx840a : List zAV := [.inr (.inr (.inl 94)), .inl ((.ofNat 0, .ofNat 4), none)]
def zyx840r : Option zAV := some (.inl ((.negSucc 2147483647, .ofNat 2147483647), none))
noncomputable def zyx840q : zPw := ((6, ([(0, .inr (.inr (.inl 94))), (1, .inl ((.ofNat 0, .ofNat 4), some (1, .ofNat 0))), (2, .inl ((.negSucc 2147483647, .ofNat 2147483647), some (2, .ofNat 0)))], [], zyh1029, 0, 0), [], 0), (zyx840r, zyh1029), 17, 2100)
noncomputable def zbzyx840c : Bool := zchkX [(94, 15)] zprog2 (zovW [zyx833d, zyx839d]) 100000 k2X8_product [zyx834q, zyx828q, zyx822q] [zyx840q] [zyx840q]
noncomputable def zyx840d : zKw := (265, 5, 17, 2100, zyx840a, zyh1028, [(zyx840r, zyh1029)])
noncomputable def zbzyx840e : Bool := zrunw zprog2 (zovW [zyx833d, zyx839d]) 100000 (zcutW [(94, 15)] none ((zyx840r, zyh1029), 17, 2100) [zyx840q, zyx834q, zyx828q, zyx822q]) 17 2100 k2X8_product (zkin zyx840r zyh1029) 0 (zargs 0 zyx840a, [], (zyh1028.1, zyh1028.2.1, 0), 0, 0)
/-! X8_sum ((('r', 103), 40, 37),) -/
noncomputable def zyx841a : List zAV := [.inr (.inr (.inl 94)), .inl ((.ofNat 1, .ofNat 4), none)]
def zyx841r : Option zAV := some (.inl ((.negSucc 2147483647, .ofNat 2147483647), none))
noncomputable def zyx841q : zPw := ((6, ([(0, .inr (.inr (.inl 94))), (1, .inl ((.ofNat 0, .ofNat 4), some (1, .ofNat 0))), (2, .inl ((.negSucc 2147483647, .ofNat 2147483647), some (2, .ofNat 0)))], [], zyh1029, 0, 0), [], 0), (zyx841r, zyh1029), 18, 2220)
noncomputable def zbzyx841c : Bool := zchkX [(94, 15)] zprog2 (zovW [zyx834d, zyx840d]) 100000 kX8_sum [zyx835q, zyx829q, zyx823q] [zyx841q] [zyx841q]
noncomputable def zyx841d : zKw := (284, 5, 18, 2220, zyx841a, zyh1028, [(zyx841r, zyh1029)])
noncomputable def zbzyx841e : Bool := zrunw zprog2 (zovW [zyx834d, zyx840d]) 100000 (zcutW [(94, 15)] none ((zyx841r, zyh1029), 18, 2220) [zyx841q, zyx835q, zyx829q, zyx823q]) 18 2220 kX8_sum (zkin zyx841r zyh1029) 0 (zargs 0 zyx841a, [], (zyh1028.1, zyh1028.2.1, 0), 0, 0)
/-! X8_heldBy -/
noncomputable def zyx842a : List zAV := [.inr (.inr (.inl 94)), .inl ((.ofNat 1, .ofNat 4), none)]
def zyx842r : Option zAV := some (.inl ((.negSucc 2147483647, .ofNat 2147483647), none))
noncomputable def zyx842p : List zPw := []
noncomputable def zyx842d : zKw := (229, 3, 19, 2340, zyx842a, zyh1028, [(zyx842r, zyh1029)])
noncomputable def zbzyx842e : Bool := zrunw zprog2 (zovW [zyx835d, zyx841d, zyx817d]) 100000 (zcutW [] none ((zyx842r, zyh1029), 19, 2340) zyx842p) 19 2340 kX8_heldBy (zkin zyx842r zyh1029) 0 (zargs 0 zyx842a, [], (zyh1028.1, zyh1028.2.1, 0), 0, 0)
/-! X8_oneOf -/
noncomputable def zyx843a : List zAV := [zyv320, zyv362, zyv363]
noncomputable def zyx843q : List (Option zAV × zH) := [(some (.inl ((.ofNat 0, .ofNat 0), none)), zyh1042), (some (.inl ((.negSucc 175, .ofNat 79), none)), zyh1027)]
noncomputable def zyx843d : zKw := (260, 3, 4, 480, zyx843a, zyh1025, zyx843q)
noncomputable def zbzyx843e : Bool := zrunw zprog2 (zovW []) 100000 zcut0 4 480 kX8_oneOf (zkinL zyx843q) 0 (zargs 0 zyx843a, [], (zyh1025.1, zyh1025.2.1, 0), 0, 0)
/-! X8_number -/
noncomputable def zyx844a : List zAV := [.inr (.inr (.inl 94)), .inl ((.ofNat 3, .ofNat 3), none)]
def zyx844r : Option zAV := some (.inl ((.negSucc 2147483647, .ofNat 2147483647), none))
noncomputable def zyx844p : List zPw := [((11, ([(0, .inr (.inr (.inl 94))), (1, .inl ((.ofNat 3, .ofNat 3), some (1, .ofNat 0))), (2, .inl ((.negSucc 2147483647, .ofNat 2147483647), some (2, .ofNat 0))), (3, .inl ((.ofNat 1, .ofNat 3), some (3, .ofNat 0)))], [], zyh1026, 0, 0), [(3, .negSucc 1)], .ofNat 7), (zyx844r, zyh1026), 5, 600)]
noncomputable def zyx844d : zKw := (259, 4, 5, 600, zyx844a, zyh1025, [(zyx844r, zyh1026)])
noncomputable def zbzyx844c : Bool := zchkX [] zprog2 (zovW [zyx843d]) 100000 kX8_number [] zyx844p zyx844p
noncomputable def zbzyx844e : Bool := zrunw zprog2 (zovW [zyx843d]) 100000 (zcutW [] none ((zyx844r, zyh1026), 5, 600) zyx844p) 5 600 kX8_number (zkin zyx844r zyh1026) 0 (zargs 0 zyx844a, [], (zyh1025.1, zyh1025.2.1, 0), 0, 0)
/-! X8_thing -/
noncomputable def zyx845a : List zAV := [.inr (.inr (.inl 94)), .inl ((.ofNat 0, .ofNat 4), none)]
def zyx845r : Option zAV := some (.inl ((.negSucc 2147483647, .ofNat 2147483647), none))
noncomputable def zyx845p : List zPw := []
noncomputable def zyx845d : zKw := (292, 4, 20, 2460, zyx845a, zyh1025, [(zyx845r, zyh1026)])
noncomputable def zbzyx845e : Bool := zrunw zprog2 (zovW [zyx842d, zyx839d, zyx817d, zyx844d, zyx816d]) 100000 (zcutW [] none ((zyx845r, zyh1026), 20, 2460) zyx845p) 20 2460 k2X8_thing (zkin zyx845r zyh1026) 0 (zargs 0 zyx845a, [], (zyh1025.1, zyh1025.2.1, 0), 0, 0)
/-! X8_product ((('r', 103), 40, 36),) -/
noncomputable def zyx846a : List zAV := [.inr (.inr (.inl 94)), .inl ((.ofNat 0, .ofNat 4), none)]
def zyx846r : Option zAV := some (.inl ((.negSucc 2147483647, .ofNat 2147483647), none))
noncomputable def zyx846q : zPw := ((6, ([(0, .inr (.inr (.inl 94))), (1, .inl ((.ofNat 0, .ofNat 4), some (1, .ofNat 0))), (2, .inl ((.negSucc 2147483647, .ofNat 2147483647), some (2, .ofNat 0)))], [], zyh1026, 0, 0), [], 0), (zyx846r, zyh1026), 21, 2580)
noncomputable def zbzyx846c : Bool := zchkX [(94, 15)] zprog2 (zovW [zyx839d, zyx845d]) 100000 k2X8_product [zyx840q, zyx834q, zyx828q, zyx822q] [zyx846q] [zyx846q]
noncomputable def zyx846d : zKw := (265, 5, 21, 2580, zyx846a, zyh1025, [(zyx846r, zyh1026)])
noncomputable def zbzyx846e : Bool := zrunw zprog2 (zovW [zyx839d, zyx845d]) 100000 (zcutW [(94, 15)] none ((zyx846r, zyh1026), 21, 2580) [zyx846q, zyx840q, zyx834q, zyx828q, zyx822q]) 21 2580 k2X8_product (zkin zyx846r zyh1026) 0 (zargs 0 zyx846a, [], (zyh1025.1, zyh1025.2.1, 0), 0, 0)
/-! X8_sum ((('r', 103), 40, 36),) -/
noncomputable def zyx847a : List zAV := [.inr (.inr (.inl 94)), .inl ((.ofNat 1, .ofNat 4), none)]
def zyx847r : Option zAV := some (.inl ((.negSucc 2147483647, .ofNat 2147483647), none))
noncomputable def zyx847q : zPw := ((6, ([(0, .inr (.inr (.inl 94))), (1, .inl ((.ofNat 0, .ofNat 4), some (1, .ofNat 0))), (2, .inl ((.negSucc 2147483647, .ofNat 2147483647), some (2, .ofNat 0)))], [], zyh1026, 0, 0), [], 0), (zyx847r, zyh1026), 22, 2700)
noncomputable def zbzyx847c : Bool := zchkX [(94, 15)] zprog2 (zovW [zyx840d, zyx846d]) 100000 kX8_sum [zyx841q, zyx835q, zyx829q, zyx823q] [zyx847q] [zyx847q]
noncomputable def zyx847d : zKw := (284, 5, 22, 2700, zyx847a, zyh1025, [(zyx847r, zyh1026)])
noncomputable def zbzyx847e : Bool := zrunw zprog2 (zovW [zyx840d, zyx846d]) 100000 (zcutW [(94, 15)] none ((zyx847r, zyh1026), 22, 2700) [zyx847q, zyx841q, zyx835q, zyx829q, zyx823q]) 22 2700 kX8_sum (zkin zyx847r zyh1026) 0 (zargs 0 zyx847a, [], (zyh1025.1, zyh1025.2.1, 0), 0, 0)
/-! X8_heldBy -/
noncomputable def zyx848a : List zAV := [.inr (.inr (.inl 94)), .inl ((.ofNat 1, .ofNat 4), none)]
def zyx848r : Option zAV := some (.inl ((.negSucc 2147483647, .ofNat 2147483647), none))
noncomputable def zyx848p : List zPw := []
noncomputable def zyx848d : zKw := (229, 3, 23, 2820, zyx848a, zyh1025, [(zyx848r, zyh1026)])
noncomputable def zbzyx848e : Bool := zrunw zprog2 (zovW [zyx841d, zyx847d, zyx816d]) 100000 (zcutW [] none ((zyx848r, zyh1026), 23, 2820) zyx848p) 23 2820 kX8_heldBy (zkin zyx848r zyh1026) 0 (zargs 0 zyx848a, [], (zyh1025.1, zyh1025.2.1, 0), 0, 0)
/-! X8_oneOf -/
noncomputable def zyx849a : List zAV := [zyv320, zyv362, zyv363]
noncomputable def zyx849q : List (Option zAV × zH) := [(some (.inl ((.ofNat 0, .ofNat 0), none)), zyh1043), (some (.inl ((.negSucc 175, .ofNat 79), none)), zyh1024)]
noncomputable def zyx849d : zKw := (260, 3, 4, 480, zyx849a, zyh1022, zyx849q)
noncomputable def zbzyx849e : Bool := zrunw zprog2 (zovW []) 100000 zcut0 4 480 kX8_oneOf (zkinL zyx849q) 0 (zargs 0 zyx849a, [], (zyh1022.1, zyh1022.2.1, 0), 0, 0)
/-! X8_number -/
noncomputable def zyx850a : List zAV := [.inr (.inr (.inl 94)), .inl ((.ofNat 3, .ofNat 3), none)]
def zyx850r : Option zAV := some (.inl ((.negSucc 2147483647, .ofNat 2147483647), none))
noncomputable def zyx850p : List zPw := [((11, ([(0, .inr (.inr (.inl 94))), (1, .inl ((.ofNat 3, .ofNat 3), some (1, .ofNat 0))), (2, .inl ((.negSucc 2147483647, .ofNat 2147483647), some (2, .ofNat 0))), (3, .inl ((.ofNat 1, .ofNat 3), some (3, .ofNat 0)))], [], zyh1023, 0, 0), [(3, .negSucc 1)], .ofNat 7), (zyx850r, zyh1023), 5, 600)]
noncomputable def zyx850d : zKw := (259, 4, 5, 600, zyx850a, zyh1022, [(zyx850r, zyh1023)])
noncomputable def zbzyx850c : Bool := zchkX [] zprog2 (zovW [zyx849d]) 100000 kX8_number [] zyx850p zyx850p
noncomputable def zbzyx850e : Bool := zrunw zprog2 (zovW [zyx849d]) 100000 (zcutW [] none ((zyx850r, zyh1023), 5, 600) zyx850p) 5 600 kX8_number (zkin zyx850r zyh1023) 0 (zargs 0 zyx850a, [], (zyh1022.1, zyh1022.2.1, 0), 0, 0)
/-! X8_thing -/
noncomputable def zyx851a : List zAV := [.inr (.inr (.inl 94)), .inl ((.ofNat 0, .ofNat 4), none)]
def zyx851r : Option zAV := some (.inl ((.negSucc 2147483647, .ofNat 2147483647), none))
noncomputable def zyx851p : List zPw := []
noncomputable def zyx851d : zKw := (292, 4, 24, 2940, zyx851a, zyh1022, [(zyx851r, zyh1023)])
noncomputable def zbzyx851e : Bool := zrunw zprog2 (zovW [zyx848d, zyx845d, zyx816d, zyx850d, zyx815d]) 100000 (zcutW [] none ((zyx851r, zyh1023), 24, 2940) zyx851p) 24 2940 k2X8_thing (zkin zyx851r zyh1023) 0 (zargs 0 zyx851a, [], (zyh1022.1, zyh1022.2.1, 0), 0, 0)
/-! X8_product ((('r', 103), 40, 35),) -/
noncomputable def zyx852a : List zAV := [.inr (.inr (.inl 94)), .inl ((.ofNat 0, .ofNat 4), none)]
def zyx852r : Option zAV := some (.inl ((.negSucc 2147483647, .ofNat 2147483647), none))
noncomputable def zyx852q : zPw := ((6, ([(0, .inr (.inr (.inl 94))), (1, .inl ((.ofNat 0, .ofNat 4), some (1, .ofNat 0))), (2, .inl ((.negSucc 2147483647, .ofNat 2147483647), some (2, .ofNat 0)))], [], zyh1023, 0, 0), [], 0), (zyx852r, zyh1023), 25, 3060)
noncomputable def zbzyx852c : Bool := zchkX [(94, 15)] zprog2 (zovW [zyx845d, zyx851d]) 100000 k2X8_product [zyx846q, zyx840q, zyx834q, zyx828q, zyx822q] [zyx852q] [zyx852q]
noncomputable def zyx852d : zKw := (265, 5, 25, 3060, zyx852a, zyh1022, [(zyx852r, zyh1023)])
noncomputable def zbzyx852e : Bool := zrunw zprog2 (zovW [zyx845d, zyx851d]) 100000 (zcutW [(94, 15)] none ((zyx852r, zyh1023), 25, 3060) [zyx852q, zyx846q, zyx840q, zyx834q, zyx828q, zyx822q]) 25 3060 k2X8_product (zkin zyx852r zyh1023) 0 (zargs 0 zyx852a, [], (zyh1022.1, zyh1022.2.1, 0), 0, 0)
/-! X8_sum ((('r', 103), 40, 35),) -/
noncomputable def zyx853a : List zAV := [.inr (.inr (.inl 94)), .inl ((.ofNat 1, .ofNat 4), none)]
def zyx853r : Option zAV := some (.inl ((.negSucc 2147483647, .ofNat 2147483647), none))
noncomputable def zyx853q : zPw := ((6, ([(0, .inr (.inr (.inl 94))), (1, .inl ((.ofNat 0, .ofNat 4), some (1, .ofNat 0))), (2, .inl ((.negSucc 2147483647, .ofNat 2147483647), some (2, .ofNat 0)))], [], zyh1023, 0, 0), [], 0), (zyx853r, zyh1023), 26, 3180)
noncomputable def zbzyx853c : Bool := zchkX [(94, 15)] zprog2 (zovW [zyx846d, zyx852d]) 100000 kX8_sum [zyx847q, zyx841q, zyx835q, zyx829q, zyx823q] [zyx853q] [zyx853q]
noncomputable def zyx853d : zKw := (284, 5, 26, 3180, zyx853a, zyh1022, [(zyx853r, zyh1023)])
noncomputable def zbzyx853e : Bool := zrunw zprog2 (zovW [zyx846d, zyx852d]) 100000 (zcutW [(94, 15)] none ((zyx853r, zyh1023), 26, 3180) [zyx853q, zyx847q, zyx841q, zyx835q, zyx829q, zyx823q]) 26 3180 kX8_sum (zkin zyx853r zyh1023) 0 (zargs 0 zyx853a, [], (zyh1022.1, zyh1022.2.1, 0), 0, 0)
/-! X8_heldBy -/
noncomputable def zyx854a : List zAV := [.inr (.inr (.inl 94)), .inl ((.ofNat 1, .ofNat 4), none)]
def zyx854r : Option zAV := some (.inl ((.negSucc 2147483647, .ofNat 2147483647), none))
noncomputable def zyx854p : List zPw := []
noncomputable def zyx854d : zKw := (229, 3, 27, 3300, zyx854a, zyh1022, [(zyx854r, zyh1023)])
noncomputable def zbzyx854e : Bool := zrunw zprog2 (zovW [zyx847d, zyx853d, zyx815d]) 100000 (zcutW [] none ((zyx854r, zyh1023), 27, 3300) zyx854p) 27 3300 kX8_heldBy (zkin zyx854r zyh1023) 0 (zargs 0 zyx854a, [], (zyh1022.1, zyh1022.2.1, 0), 0, 0)
/-! X8_oneOf -/
noncomputable def zyx855a : List zAV := [zyv320, zyv362, zyv363]
noncomputable def zyx855q : List (Option zAV × zH) := [(some (.inl ((.ofNat 0, .ofNat 0), none)), zyh1044), (some (.inl ((.negSucc 175, .ofNat 79), none)), zyh1021)]
noncomputable def zyx855d : zKw := (260, 3, 4, 480, zyx855a, zyh1019, zyx855q)
noncomputable def zbzyx855e : Bool := zrunw zprog2 (zovW []) 100000 zcut0 4 480 kX8_oneOf (zkinL zyx855q) 0 (zargs 0 zyx855a, [], (zyh1019.1, zyh1019.2.1, 0), 0, 0)
/-! X8_number -/
noncomputable def zyx856a : List zAV := [.inr (.inr (.inl 94)), .inl ((.ofNat 3, .ofNat 3), none)]
def zyx856r : Option zAV := some (.inl ((.negSucc 2147483647, .ofNat 2147483647), none))
noncomputable def zyx856p : List zPw := [((11, ([(0, .inr (.inr (.inl 94))), (1, .inl ((.ofNat 3, .ofNat 3), some (1, .ofNat 0))), (2, .inl ((.negSucc 2147483647, .ofNat 2147483647), some (2, .ofNat 0))), (3, .inl ((.ofNat 1, .ofNat 3), some (3, .ofNat 0)))], [], zyh1020, 0, 0), [(3, .negSucc 1)], .ofNat 7), (zyx856r, zyh1020), 5, 600)]
noncomputable def zyx856d : zKw := (259, 4, 5, 600, zyx856a, zyh1019, [(zyx856r, zyh1020)])
noncomputable def zbzyx856c : Bool := zchkX [] zprog2 (zovW [zyx855d]) 100000 kX8_number [] zyx856p zyx856p
noncomputable def zbzyx856e : Bool := zrunw zprog2 (zovW [zyx855d]) 100000 (zcutW [] none ((zyx856r, zyh1020), 5, 600) zyx856p) 5 600 kX8_number (zkin zyx856r zyh1020) 0 (zargs 0 zyx856a, [], (zyh1019.1, zyh1019.2.1, 0), 0, 0)
/-! X8_thing -/
noncomputable def zyx857a : List zAV := [.inr (.inr (.inl 94)), .inl ((.ofNat 0, .ofNat 4), none)]
def zyx857r : Option zAV := some (.inl ((.negSucc 2147483647, .ofNat 2147483647), none))
noncomputable def zyx857p : List zPw := []
noncomputable def zyx857d : zKw := (292, 4, 28, 3420, zyx857a, zyh1019, [(zyx857r, zyh1020)])
noncomputable def zbzyx857e : Bool := zrunw zprog2 (zovW [zyx854d, zyx851d, zyx815d, zyx856d, zyx814d]) 100000 (zcutW [] none ((zyx857r, zyh1020), 28, 3420) zyx857p) 28 3420 k2X8_thing (zkin zyx857r zyh1020) 0 (zargs 0 zyx857a, [], (zyh1019.1, zyh1019.2.1, 0), 0, 0)
/-! X8_product ((('r', 103), 40, 34),) -/
noncomputable def zyx858a : List zAV := [.inr (.inr (.inl 94)), .inl ((.ofNat 0, .ofNat 4), none)]
def zyx858r : Option zAV := some (.inl ((.negSucc 2147483647, .ofNat 2147483647), none))
noncomputable def zyx858q : zPw := ((6, ([(0, .inr (.inr (.inl 94))), (1, .inl ((.ofNat 0, .ofNat 4), some (1, .ofNat 0))), (2, .inl ((.negSucc 2147483647, .ofNat 2147483647), some (2, .ofNat 0)))], [], zyh1020, 0, 0), [], 0), (zyx858r, zyh1020), 29, 3540)
noncomputable def zbzyx858c : Bool := zchkX [(94, 15)] zprog2 (zovW [zyx851d, zyx857d]) 100000 k2X8_product [zyx852q, zyx846q, zyx840q, zyx834q, zyx828q, zyx822q] [zyx858q] [zyx858q]
noncomputable def zyx858d : zKw := (265, 5, 29, 3540, zyx858a, zyh1019, [(zyx858r, zyh1020)])
noncomputable def zbzyx858e : Bool := zrunw zprog2 (zovW [zyx851d, zyx857d]) 100000 (zcutW [(94, 15)] none ((zyx858r, zyh1020), 29, 3540) [zyx858q, zyx852q, zyx846q, zyx840q, zyx834q, zyx828q, zyx822q]) 29 3540 k2X8_product (zkin zyx858r zyh1020) 0 (zargs 0 zyx858a, [], (zyh1019.1, zyh1019.2.1, 0), 0, 0)
/-! X8_sum ((('r', 103), 40, 34),) -/
noncomputable def zyx859a : List zAV := [.inr (.inr (.inl 94)), .inl ((.ofNat 1, .ofNat 4), none)]
def zyx859r : Option zAV := some (.inl ((.negSucc 2147483647, .ofNat 2147483647), none))
noncomputable def zyx859q : zPw := ((6, ([(0, .inr (.inr (.inl 94))), (1, .inl ((.ofNat 0, .ofNat 4), some (1, .ofNat 0))), (2, .inl ((.negSucc 2147483647, .ofNat 2147483647), some (2, .ofNat 0)))], [], zyh1020, 0, 0), [], 0), (zyx859r, zyh1020), 30, 3660)
noncomputable def zbzyx859c : Bool := zchkX [(94, 15)] zprog2 (zovW [zyx852d, zyx858d]) 100000 kX8_sum [zyx853q, zyx847q, zyx841q, zyx835q, zyx829q, zyx823q] [zyx859q] [zyx859q]
noncomputable def zyx859d : zKw := (284, 5, 30, 3660, zyx859a, zyh1019, [(zyx859r, zyh1020)])
noncomputable def zbzyx859e : Bool := zrunw zprog2 (zovW [zyx852d, zyx858d]) 100000 (zcutW [(94, 15)] none ((zyx859r, zyh1020), 30, 3660) [zyx859q, zyx853q, zyx847q, zyx841q, zyx835q, zyx829q, zyx823q]) 30 3660 kX8_sum (zkin zyx859r zyh1020) 0 (zargs 0 zyx859a, [], (zyh1019.1, zyh1019.2.1, 0), 0, 0)
/-! X8_heldBy -/
noncomputable def zyx860a : List zAV := [.inr (.inr (.inl 94)), .inl ((.ofNat 1, .ofNat 4), none)]
def zyx860r : Option zAV := some (.inl ((.negSucc 2147483647, .ofNat 2147483647), none))
noncomputable def zyx860p : List zPw := []
noncomputable def zyx860d : zKw := (229, 3, 31, 3780, zyx860a, zyh1019, [(zyx860r, zyh1020)])
noncomputable def zbzyx860e : Bool := zrunw zprog2 (zovW [zyx853d, zyx859d, zyx814d]) 100000 (zcutW [] none ((zyx860r, zyh1020), 31, 3780) zyx860p) 31 3780 kX8_heldBy (zkin zyx860r zyh1020) 0 (zargs 0 zyx860a, [], (zyh1019.1, zyh1019.2.1, 0), 0, 0)
/-! X8_oneOf -/
noncomputable def zyx861a : List zAV := [zyv320, zyv362, zyv363]
noncomputable def zyx861q : List (Option zAV × zH) := [(some (.inl ((.ofNat 0, .ofNat 0), none)), zyh1045), (some (.inl ((.negSucc 175, .ofNat 79), none)), zyh1018)]
noncomputable def zyx861d : zKw := (260, 3, 4, 480, zyx861a, zyh1016, zyx861q)
noncomputable def zbzyx861e : Bool := zrunw zprog2 (zovW []) 100000 zcut0 4 480 kX8_oneOf (zkinL zyx861q) 0 (zargs 0 zyx861a, [], (zyh1016.1, zyh1016.2.1, 0), 0, 0)
/-! X8_number -/
noncomputable def zyx862a : List zAV := [.inr (.inr (.inl 94)), .inl ((.ofNat 3, .ofNat 3), none)]
def zyx862r : Option zAV := some (.inl ((.negSucc 2147483647, .ofNat 2147483647), none))
noncomputable def zyx862p : List zPw := [((11, ([(0, .inr (.inr (.inl 94))), (1, .inl ((.ofNat 3, .ofNat 3), some (1, .ofNat 0))), (2, .inl ((.negSucc 2147483647, .ofNat 2147483647), some (2, .ofNat 0))), (3, .inl ((.ofNat 1, .ofNat 3), some (3, .ofNat 0)))], [], zyh1017, 0, 0), [(3, .negSucc 1)], .ofNat 7), (zyx862r, zyh1017), 5, 600)]
noncomputable def zyx862d : zKw := (259, 4, 5, 600, zyx862a, zyh1016, [(zyx862r, zyh1017)])
noncomputable def zbzyx862c : Bool := zchkX [] zprog2 (zovW [zyx861d]) 100000 kX8_number [] zyx862p zyx862p
noncomputable def zbzyx862e : Bool := zrunw zprog2 (zovW [zyx861d]) 100000 (zcutW [] none ((zyx862r, zyh1017), 5, 600) zyx862p) 5 600 kX8_number (zkin zyx862r zyh1017) 0 (zargs 0 zyx862a, [], (zyh1016.1, zyh1016.2.1, 0), 0, 0)
/-! X8_thing -/
noncomputable def zyx863a : List zAV := [.inr (.inr (.inl 94)), .inl ((.ofNat 0, .ofNat 4), none)]
def zyx863r : Option zAV := some (.inl ((.negSucc 2147483647, .ofNat 2147483647), none))
noncomputable def zyx863p : List zPw := []
noncomputable def zyx863d : zKw := (292, 4, 32, 3900, zyx863a, zyh1016, [(zyx863r, zyh1017)])
noncomputable def zbzyx863e : Bool := zrunw zprog2 (zovW [zyx860d, zyx857d, zyx814d, zyx862d, zyx813d]) 100000 (zcutW [] none ((zyx863r, zyh1017), 32, 3900) zyx863p) 32 3900 k2X8_thing (zkin zyx863r zyh1017) 0 (zargs 0 zyx863a, [], (zyh1016.1, zyh1016.2.1, 0), 0, 0)
noncomputable def zyg16 : List Bool := [zbzyx776c, zbzyx776e, zbzyx777c, zbzyx777e, zbzyx778c, zbzyx778e, zbzyx779e, zbzyx780c, zbzyx780e, zbzyx781e, zbzyx782e, zbzyx783e, zbzyx784e, zbzyx785e, zbzyx786e, zbzyx787e, zbzyx788e, zbzyx789e, zbzyx790e, zbzyx791e, zbzyx792e, zbzyx793e, zbzyx794e, zbzyx795e, zbzyx796e, zbzyx797e, zbzyx798e, zbzyx799e, zbzyx800e, zbzyx801e, zbzyx802e, zbzyx803e, zbzyx804e, zbzyx805e, zbzyx806e, zbzyx807e, zbzyx808e, zbzyx809e, zbzyx810e, zbzyx811e, zbzyx812e, zbzyx813e, zbzyx814e, zbzyx815e, zbzyx816e, zbzyx817e, zbzyx818e, zbzyx819e, zbzyx820e, zbzyx821e, zbzyx822c, zbzyx822e, zbzyx823c, zbzyx823e, zbzyx824e, zbzyx825e, zbzyx826c, zbzyx826e, zbzyx827e, zbzyx828c, zbzyx828e, zbzyx829c, zbzyx829e, zbzyx830e, zbzyx831e, zbzyx832c, zbzyx832e, zbzyx833e, zbzyx834c, zbzyx834e, zbzyx835c, zbzyx835e, zbzyx836e, zbzyx837e, zbzyx838c, zbzyx838e, zbzyx839e, zbzyx840c, zbzyx840e, zbzyx841c, zbzyx841e, zbzyx842e, zbzyx843e, zbzyx844c, zbzyx844e, zbzyx845e, zbzyx846c, zbzyx846e, zbzyx847c, zbzyx847e, zbzyx848e, zbzyx849e, zbzyx850c, zbzyx850e, zbzyx851e, zbzyx852c, zbzyx852e, zbzyx853c, zbzyx853e, zbzyx854e, zbzyx855e, zbzyx856c, zbzyx856e, zbzyx857e, zbzyx858c, zbzyx858e, zbzyx859c, zbzyx859e, zbzyx860e, zbzyx861e, zbzyx862c, zbzyx862e, zbzyx863e]
set_option maxRecDepth 100000 in
theorem zyg16_ok : zall (fun b => b) zyg16 = true := by decide +kernel
theorem zyx776c : zchkX [] zprog2 (zovW [zyx298d, zyx297d]) 100000 k2X7_hardOfRota [] zyx776p zyx776p = true := zall_ok zyg16_ok (k := 0) (a := zbzyx776c) rfl
theorem zyx776e : zrunw zprog2 (zovW [zyx298d, zyx297d]) 100000 (zcutW [] none ((zyx776r, zyh898), 5, 600) zyx776p) 5 600 k2X7_hardOfRota (zkin zyx776r zyh898) 0 (zargs 0 zyx776a, [], (zyh897.1, zyh897.2.1, 0), 0, 0) = true := zall_ok zyg16_ok (k := 1) (a := zbzyx776e) rfl
theorem zyx776 {l : Launch} {D : va_G} {tys : List (ClassId × FieldType)} {o : zO} {z : Nat} (E : zEnv tys) : zKnW l D vwCl tys o z (zXX o z) zTs zprog2 zyx776d :=
  zkn_mk E (fun g => List.forall_mem_cons.mpr ⟨zyx298 (o := zwith o g) E, List.forall_mem_cons.mpr ⟨zyx297 (o := zwith o g) E, fun _ h => absurd h List.not_mem_nil⟩⟩) (show zget zprog2 130 = some m2X7_hardOfRota from rfl) rfl (by decide) (by decide) (by decide) (by decide) (G := zyx776p) (zkn_pt E (fun g => List.forall_mem_cons.mpr ⟨zyx298 (o := zwith o g) E, List.forall_mem_cons.mpr ⟨zyx297 (o := zwith o g) E, fun _ h => absurd h List.not_mem_nil⟩⟩) (show zget zprog2 130 = some m2X7_hardOfRota from rfl) (fun _ h => absurd h List.not_mem_nil) zyx776c) zyx776e
theorem zyx777c : zchkX [] zprog2 (zovW []) 100000 k2X3_value [] zyx777p zyx777p = true := zall_ok zyg16_ok (k := 2) (a := zbzyx777c) rfl
theorem zyx777e : zrunw zprog2 (zovW []) 100000 (zcutW [] none ((zyx777r, zyh899), 3, 420) zyx777p) 3 420 k2X3_value (zkin zyx777r zyh899) 0 (zargs 0 zyx777a, [], (zyh897.1, zyh897.2.1, 0), 0, 0) = true := zall_ok zyg16_ok (k := 3) (a := zbzyx777e) rfl
theorem zyx777 {l : Launch} {D : va_G} {tys : List (ClassId × FieldType)} {o : zO} {z : Nat} (E : zEnv tys) : zKnW l D vwCl tys o z (zXX o z) zTs zprog2 zyx777d :=
  zkn_mk E (fun g => fun _ h => absurd h List.not_mem_nil) (show zget zprog2 58 = some m2X3_value from rfl) rfl (by decide) (by decide) (by decide) (by decide) (G := zyx777p) (zkn_pt E (fun g => fun _ h => absurd h List.not_mem_nil) (show zget zprog2 58 = some m2X3_value from rfl) (fun _ h => absurd h List.not_mem_nil) zyx777c) zyx777e
theorem zyx778c : zchkX [] zprog2 (zovW [zyx777d, zyx297d]) 100000 k2X7_hardOfRota [] zyx778p zyx778p = true := zall_ok zyg16_ok (k := 4) (a := zbzyx778c) rfl
theorem zyx778e : zrunw zprog2 (zovW [zyx777d, zyx297d]) 100000 (zcutW [] none ((zyx778r, zyh900), 5, 600) zyx778p) 5 600 k2X7_hardOfRota (zkin zyx778r zyh900) 0 (zargs 0 zyx778a, [], (zyh897.1, zyh897.2.1, 0), 0, 0) = true := zall_ok zyg16_ok (k := 5) (a := zbzyx778e) rfl
theorem zyx778 {l : Launch} {D : va_G} {tys : List (ClassId × FieldType)} {o : zO} {z : Nat} (E : zEnv tys) : zKnW l D vwCl tys o z (zXX o z) zTs zprog2 zyx778d :=
  zkn_mk E (fun g => List.forall_mem_cons.mpr ⟨zyx777 (o := zwith o g) E, List.forall_mem_cons.mpr ⟨zyx297 (o := zwith o g) E, fun _ h => absurd h List.not_mem_nil⟩⟩) (show zget zprog2 130 = some m2X7_hardOfRota from rfl) rfl (by decide) (by decide) (by decide) (by decide) (G := zyx778p) (zkn_pt E (fun g => List.forall_mem_cons.mpr ⟨zyx777 (o := zwith o g) E, List.forall_mem_cons.mpr ⟨zyx297 (o := zwith o g) E, fun _ h => absurd h List.not_mem_nil⟩⟩) (show zget zprog2 130 = some m2X7_hardOfRota from rfl) (fun _ h => absurd h List.not_mem_nil) zyx778c) zyx778e
theorem zyx779e : zrunw zprog2 (zovW [zyx775d, zyx776d, zyx778d]) 100000 (zcutW [] none ((zyx779r, zyh901), 9, 960) zyx779p) 9 960 kX7_law (zkin zyx779r zyh901) 0 (zargs 0 zyx779a, [], (zyh0.1, zyh0.2.1, 0), 0, 0) = true := zall_ok zyg16_ok (k := 6) (a := zbzyx779e) rfl
theorem zyx779 {l : Launch} {D : va_G} {tys : List (ClassId × FieldType)} {o : zO} {z : Nat} (E : zEnv tys) : zKnW l D vwCl tys o z (zXX o z) zTs zprog2 zyx779d :=
  zkn_mk E (fun g => List.forall_mem_cons.mpr ⟨zyx775 (o := zwith o g) E, List.forall_mem_cons.mpr ⟨zyx776 (o := zwith o g) E, List.forall_mem_cons.mpr ⟨zyx778 (o := zwith o g) E, fun _ h => absurd h List.not_mem_nil⟩⟩⟩) (show zget zprog2 141 = some mX7_law from rfl) rfl (by decide) (by decide) (by decide) (by decide) (G := zyx779p) (fun _ h => absurd h List.not_mem_nil) zyx779e
theorem zyx780c : zchkX [(94, 1)] zprog2 (zovW [zyx585d, zyx300d]) 100000 k2X8_hardOfRota [] zyx780p zyx780p = true := zall_ok zyg16_ok (k := 7) (a := zbzyx780c) rfl
theorem zyx780e : zrunw zprog2 (zovW [zyx585d, zyx300d]) 100000 (zcutW [(94, 1)] none ((zyx780r, zyh903), 169, 20280) zyx780p) 169 20280 k2X8_hardOfRota (zkin zyx780r zyh903) 0 (zargs 0 zyx780a, [], (zyh902.1, zyh902.2.1, 0), 0, 0) = true := zall_ok zyg16_ok (k := 8) (a := zbzyx780e) rfl
theorem zyx780 {l : Launch} {D : va_G} {tys : List (ClassId × FieldType)} {o : zO} {z : Nat} (E : zEnv tys) : zKnW l D vwCl tys o z (zXX o z) zTs zprog2 zyx780d :=
  zkn_mk E (fun g => List.forall_mem_cons.mpr ⟨zyx585 (o := zwith o g) E, List.forall_mem_cons.mpr ⟨zyx300 (o := zwith o g) E, fun _ h => absurd h List.not_mem_nil⟩⟩) (show zget zprog2 226 = some m2X8_hardOfRota from rfl) rfl (by decide) (by decide) (by decide) (by decide) (G := zyx780p) (zkn_pt E (fun g => List.forall_mem_cons.mpr ⟨zyx585 (o := zwith o g) E, List.forall_mem_cons.mpr ⟨zyx300 (o := zwith o g) E, fun _ h => absurd h List.not_mem_nil⟩⟩) (show zget zprog2 226 = some m2X8_hardOfRota from rfl) (fun _ h => absurd h List.not_mem_nil) zyx780c) zyx780e
theorem zyx781e : zrunw zprog2 (zovW []) 100000 zcut0 3 420 kX8_passes (zkinL zyx781q) 0 (zargs 0 zyx781a, [], (zyh920.1, zyh920.2.1, 0), 0, 0) = true := zall_ok zyg16_ok (k := 9) (a := zbzyx781e) rfl
theorem zyx781 {l : Launch} {D : va_G} {tys : List (ClassId × FieldType)} {o : zO} {z : Nat} (E : zEnv tys) : zKnW l D vwCl tys o z (zXX o z) zTs zprog2 zyx781d :=
  zkn_ml E (fun g => fun _ h => absurd h List.not_mem_nil) (show zget zprog2 263 = some mX8_passes from rfl) rfl (by decide) (by decide) (by decide) (by decide) zyx781e
theorem zyx782e : zrunw zprog2 (zovW []) 100000 zcut0 3 420 kX8_passes (zkinL zyx782q) 0 (zargs 0 zyx782a, [], (zyh923.1, zyh923.2.1, 0), 0, 0) = true := zall_ok zyg16_ok (k := 10) (a := zbzyx782e) rfl
theorem zyx782 {l : Launch} {D : va_G} {tys : List (ClassId × FieldType)} {o : zO} {z : Nat} (E : zEnv tys) : zKnW l D vwCl tys o z (zXX o z) zTs zprog2 zyx782d :=
  zkn_ml E (fun g => fun _ h => absurd h List.not_mem_nil) (show zget zprog2 263 = some mX8_passes from rfl) rfl (by decide) (by decide) (by decide) (by decide) zyx782e
theorem zyx783e : zrunw zprog2 (zovW []) 100000 zcut0 3 420 kX8_passes (zkinL zyx783q) 0 (zargs 0 zyx783a, [], (zyh926.1, zyh926.2.1, 0), 0, 0) = true := zall_ok zyg16_ok (k := 11) (a := zbzyx783e) rfl
theorem zyx783 {l : Launch} {D : va_G} {tys : List (ClassId × FieldType)} {o : zO} {z : Nat} (E : zEnv tys) : zKnW l D vwCl tys o z (zXX o z) zTs zprog2 zyx783d :=
  zkn_ml E (fun g => fun _ h => absurd h List.not_mem_nil) (show zget zprog2 263 = some mX8_passes from rfl) rfl (by decide) (by decide) (by decide) (by decide) zyx783e
theorem zyx784e : zrunw zprog2 (zovW []) 100000 zcut0 3 420 kX8_passes (zkinL zyx784q) 0 (zargs 0 zyx784a, [], (zyh929.1, zyh929.2.1, 0), 0, 0) = true := zall_ok zyg16_ok (k := 12) (a := zbzyx784e) rfl
theorem zyx784 {l : Launch} {D : va_G} {tys : List (ClassId × FieldType)} {o : zO} {z : Nat} (E : zEnv tys) : zKnW l D vwCl tys o z (zXX o z) zTs zprog2 zyx784d :=
  zkn_ml E (fun g => fun _ h => absurd h List.not_mem_nil) (show zget zprog2 263 = some mX8_passes from rfl) rfl (by decide) (by decide) (by decide) (by decide) zyx784e
theorem zyx785e : zrunw zprog2 (zovW []) 100000 zcut0 3 420 kX8_passes (zkinL zyx785q) 0 (zargs 0 zyx785a, [], (zyh932.1, zyh932.2.1, 0), 0, 0) = true := zall_ok zyg16_ok (k := 13) (a := zbzyx785e) rfl
theorem zyx785 {l : Launch} {D : va_G} {tys : List (ClassId × FieldType)} {o : zO} {z : Nat} (E : zEnv tys) : zKnW l D vwCl tys o z (zXX o z) zTs zprog2 zyx785d :=
  zkn_ml E (fun g => fun _ h => absurd h List.not_mem_nil) (show zget zprog2 263 = some mX8_passes from rfl) rfl (by decide) (by decide) (by decide) (by decide) zyx785e
theorem zyx786e : zrunw zprog2 (zovW []) 100000 zcut0 3 420 kX8_passes (zkinL zyx786q) 0 (zargs 0 zyx786a, [], (zyh935.1, zyh935.2.1, 0), 0, 0) = true := zall_ok zyg16_ok (k := 14) (a := zbzyx786e) rfl
theorem zyx786 {l : Launch} {D : va_G} {tys : List (ClassId × FieldType)} {o : zO} {z : Nat} (E : zEnv tys) : zKnW l D vwCl tys o z (zXX o z) zTs zprog2 zyx786d :=
  zkn_ml E (fun g => fun _ h => absurd h List.not_mem_nil) (show zget zprog2 263 = some mX8_passes from rfl) rfl (by decide) (by decide) (by decide) (by decide) zyx786e
theorem zyx787e : zrunw zprog2 (zovW []) 100000 zcut0 3 420 kX8_passes (zkinL zyx787q) 0 (zargs 0 zyx787a, [], (zyh938.1, zyh938.2.1, 0), 0, 0) = true := zall_ok zyg16_ok (k := 15) (a := zbzyx787e) rfl
theorem zyx787 {l : Launch} {D : va_G} {tys : List (ClassId × FieldType)} {o : zO} {z : Nat} (E : zEnv tys) : zKnW l D vwCl tys o z (zXX o z) zTs zprog2 zyx787d :=
  zkn_ml E (fun g => fun _ h => absurd h List.not_mem_nil) (show zget zprog2 263 = some mX8_passes from rfl) rfl (by decide) (by decide) (by decide) (by decide) zyx787e
theorem zyx788e : zrunw zprog2 (zovW []) 100000 zcut0 3 420 kX8_passes (zkinL zyx788q) 0 (zargs 0 zyx788a, [], (zyh941.1, zyh941.2.1, 0), 0, 0) = true := zall_ok zyg16_ok (k := 16) (a := zbzyx788e) rfl
theorem zyx788 {l : Launch} {D : va_G} {tys : List (ClassId × FieldType)} {o : zO} {z : Nat} (E : zEnv tys) : zKnW l D vwCl tys o z (zXX o z) zTs zprog2 zyx788d :=
  zkn_ml E (fun g => fun _ h => absurd h List.not_mem_nil) (show zget zprog2 263 = some mX8_passes from rfl) rfl (by decide) (by decide) (by decide) (by decide) zyx788e
theorem zyx789e : zrunw zprog2 (zovW []) 100000 zcut0 3 420 kX8_passes (zkinL zyx789q) 0 (zargs 0 zyx789a, [], (zyh944.1, zyh944.2.1, 0), 0, 0) = true := zall_ok zyg16_ok (k := 17) (a := zbzyx789e) rfl
theorem zyx789 {l : Launch} {D : va_G} {tys : List (ClassId × FieldType)} {o : zO} {z : Nat} (E : zEnv tys) : zKnW l D vwCl tys o z (zXX o z) zTs zprog2 zyx789d :=
  zkn_ml E (fun g => fun _ h => absurd h List.not_mem_nil) (show zget zprog2 263 = some mX8_passes from rfl) rfl (by decide) (by decide) (by decide) (by decide) zyx789e
theorem zyx790e : zrunw zprog2 (zovW []) 100000 zcut0 3 420 kX8_passes (zkinL zyx790q) 0 (zargs 0 zyx790a, [], (zyh947.1, zyh947.2.1, 0), 0, 0) = true := zall_ok zyg16_ok (k := 18) (a := zbzyx790e) rfl
theorem zyx790 {l : Launch} {D : va_G} {tys : List (ClassId × FieldType)} {o : zO} {z : Nat} (E : zEnv tys) : zKnW l D vwCl tys o z (zXX o z) zTs zprog2 zyx790d :=
  zkn_ml E (fun g => fun _ h => absurd h List.not_mem_nil) (show zget zprog2 263 = some mX8_passes from rfl) rfl (by decide) (by decide) (by decide) (by decide) zyx790e
theorem zyx791e : zrunw zprog2 (zovW []) 100000 zcut0 3 420 kX8_passes (zkinL zyx791q) 0 (zargs 0 zyx791a, [], (zyh950.1, zyh950.2.1, 0), 0, 0) = true := zall_ok zyg16_ok (k := 19) (a := zbzyx791e) rfl
theorem zyx791 {l : Launch} {D : va_G} {tys : List (ClassId × FieldType)} {o : zO} {z : Nat} (E : zEnv tys) : zKnW l D vwCl tys o z (zXX o z) zTs zprog2 zyx791d :=
  zkn_ml E (fun g => fun _ h => absurd h List.not_mem_nil) (show zget zprog2 263 = some mX8_passes from rfl) rfl (by decide) (by decide) (by decide) (by decide) zyx791e
theorem zyx792e : zrunw zprog2 (zovW []) 100000 zcut0 3 420 kX8_passes (zkinL zyx792q) 0 (zargs 0 zyx792a, [], (zyh953.1, zyh953.2.1, 0), 0, 0) = true := zall_ok zyg16_ok (k := 20) (a := zbzyx792e) rfl
theorem zyx792 {l : Launch} {D : va_G} {tys : List (ClassId × FieldType)} {o : zO} {z : Nat} (E : zEnv tys) : zKnW l D vwCl tys o z (zXX o z) zTs zprog2 zyx792d :=
  zkn_ml E (fun g => fun _ h => absurd h List.not_mem_nil) (show zget zprog2 263 = some mX8_passes from rfl) rfl (by decide) (by decide) (by decide) (by decide) zyx792e
theorem zyx793e : zrunw zprog2 (zovW []) 100000 zcut0 3 420 kX8_passes (zkinL zyx793q) 0 (zargs 0 zyx793a, [], (zyh956.1, zyh956.2.1, 0), 0, 0) = true := zall_ok zyg16_ok (k := 21) (a := zbzyx793e) rfl
theorem zyx793 {l : Launch} {D : va_G} {tys : List (ClassId × FieldType)} {o : zO} {z : Nat} (E : zEnv tys) : zKnW l D vwCl tys o z (zXX o z) zTs zprog2 zyx793d :=
  zkn_ml E (fun g => fun _ h => absurd h List.not_mem_nil) (show zget zprog2 263 = some mX8_passes from rfl) rfl (by decide) (by decide) (by decide) (by decide) zyx793e
theorem zyx794e : zrunw zprog2 (zovW []) 100000 zcut0 3 420 kX8_passes (zkinL zyx794q) 0 (zargs 0 zyx794a, [], (zyh959.1, zyh959.2.1, 0), 0, 0) = true := zall_ok zyg16_ok (k := 22) (a := zbzyx794e) rfl
theorem zyx794 {l : Launch} {D : va_G} {tys : List (ClassId × FieldType)} {o : zO} {z : Nat} (E : zEnv tys) : zKnW l D vwCl tys o z (zXX o z) zTs zprog2 zyx794d :=
  zkn_ml E (fun g => fun _ h => absurd h List.not_mem_nil) (show zget zprog2 263 = some mX8_passes from rfl) rfl (by decide) (by decide) (by decide) (by decide) zyx794e
theorem zyx795e : zrunw zprog2 (zovW []) 100000 zcut0 3 420 kX8_passes (zkinL zyx795q) 0 (zargs 0 zyx795a, [], (zyh962.1, zyh962.2.1, 0), 0, 0) = true := zall_ok zyg16_ok (k := 23) (a := zbzyx795e) rfl
theorem zyx795 {l : Launch} {D : va_G} {tys : List (ClassId × FieldType)} {o : zO} {z : Nat} (E : zEnv tys) : zKnW l D vwCl tys o z (zXX o z) zTs zprog2 zyx795d :=
  zkn_ml E (fun g => fun _ h => absurd h List.not_mem_nil) (show zget zprog2 263 = some mX8_passes from rfl) rfl (by decide) (by decide) (by decide) (by decide) zyx795e
theorem zyx796e : zrunw zprog2 (zovW []) 100000 zcut0 3 420 kX8_passes (zkinL zyx796q) 0 (zargs 0 zyx796a, [], (zyh965.1, zyh965.2.1, 0), 0, 0) = true := zall_ok zyg16_ok (k := 24) (a := zbzyx796e) rfl
theorem zyx796 {l : Launch} {D : va_G} {tys : List (ClassId × FieldType)} {o : zO} {z : Nat} (E : zEnv tys) : zKnW l D vwCl tys o z (zXX o z) zTs zprog2 zyx796d :=
  zkn_ml E (fun g => fun _ h => absurd h List.not_mem_nil) (show zget zprog2 263 = some mX8_passes from rfl) rfl (by decide) (by decide) (by decide) (by decide) zyx796e
theorem zyx797e : zrunw zprog2 (zovW []) 100000 zcut0 3 420 kX8_passes (zkinL zyx797q) 0 (zargs 0 zyx797a, [], (zyh968.1, zyh968.2.1, 0), 0, 0) = true := zall_ok zyg16_ok (k := 25) (a := zbzyx797e) rfl
theorem zyx797 {l : Launch} {D : va_G} {tys : List (ClassId × FieldType)} {o : zO} {z : Nat} (E : zEnv tys) : zKnW l D vwCl tys o z (zXX o z) zTs zprog2 zyx797d :=
  zkn_ml E (fun g => fun _ h => absurd h List.not_mem_nil) (show zget zprog2 263 = some mX8_passes from rfl) rfl (by decide) (by decide) (by decide) (by decide) zyx797e
theorem zyx798e : zrunw zprog2 (zovW []) 100000 zcut0 3 420 kX8_passes (zkinL zyx798q) 0 (zargs 0 zyx798a, [], (zyh971.1, zyh971.2.1, 0), 0, 0) = true := zall_ok zyg16_ok (k := 26) (a := zbzyx798e) rfl
theorem zyx798 {l : Launch} {D : va_G} {tys : List (ClassId × FieldType)} {o : zO} {z : Nat} (E : zEnv tys) : zKnW l D vwCl tys o z (zXX o z) zTs zprog2 zyx798d :=
  zkn_ml E (fun g => fun _ h => absurd h List.not_mem_nil) (show zget zprog2 263 = some mX8_passes from rfl) rfl (by decide) (by decide) (by decide) (by decide) zyx798e
theorem zyx799e : zrunw zprog2 (zovW []) 100000 zcut0 3 420 kX8_passes (zkinL zyx799q) 0 (zargs 0 zyx799a, [], (zyh974.1, zyh974.2.1, 0), 0, 0) = true := zall_ok zyg16_ok (k := 27) (a := zbzyx799e) rfl
theorem zyx799 {l : Launch} {D : va_G} {tys : List (ClassId × FieldType)} {o : zO} {z : Nat} (E : zEnv tys) : zKnW l D vwCl tys o z (zXX o z) zTs zprog2 zyx799d :=
  zkn_ml E (fun g => fun _ h => absurd h List.not_mem_nil) (show zget zprog2 263 = some mX8_passes from rfl) rfl (by decide) (by decide) (by decide) (by decide) zyx799e
theorem zyx800e : zrunw zprog2 (zovW []) 100000 zcut0 3 420 kX8_passes (zkinL zyx800q) 0 (zargs 0 zyx800a, [], (zyh977.1, zyh977.2.1, 0), 0, 0) = true := zall_ok zyg16_ok (k := 28) (a := zbzyx800e) rfl
theorem zyx800 {l : Launch} {D : va_G} {tys : List (ClassId × FieldType)} {o : zO} {z : Nat} (E : zEnv tys) : zKnW l D vwCl tys o z (zXX o z) zTs zprog2 zyx800d :=
  zkn_ml E (fun g => fun _ h => absurd h List.not_mem_nil) (show zget zprog2 263 = some mX8_passes from rfl) rfl (by decide) (by decide) (by decide) (by decide) zyx800e
theorem zyx801e : zrunw zprog2 (zovW []) 100000 zcut0 3 420 kX8_passes (zkinL zyx801q) 0 (zargs 0 zyx801a, [], (zyh980.1, zyh980.2.1, 0), 0, 0) = true := zall_ok zyg16_ok (k := 29) (a := zbzyx801e) rfl
theorem zyx801 {l : Launch} {D : va_G} {tys : List (ClassId × FieldType)} {o : zO} {z : Nat} (E : zEnv tys) : zKnW l D vwCl tys o z (zXX o z) zTs zprog2 zyx801d :=
  zkn_ml E (fun g => fun _ h => absurd h List.not_mem_nil) (show zget zprog2 263 = some mX8_passes from rfl) rfl (by decide) (by decide) (by decide) (by decide) zyx801e
theorem zyx802e : zrunw zprog2 (zovW []) 100000 zcut0 3 420 kX8_passes (zkinL zyx802q) 0 (zargs 0 zyx802a, [], (zyh983.1, zyh983.2.1, 0), 0, 0) = true := zall_ok zyg16_ok (k := 30) (a := zbzyx802e) rfl
theorem zyx802 {l : Launch} {D : va_G} {tys : List (ClassId × FieldType)} {o : zO} {z : Nat} (E : zEnv tys) : zKnW l D vwCl tys o z (zXX o z) zTs zprog2 zyx802d :=
  zkn_ml E (fun g => fun _ h => absurd h List.not_mem_nil) (show zget zprog2 263 = some mX8_passes from rfl) rfl (by decide) (by decide) (by decide) (by decide) zyx802e
theorem zyx803e : zrunw zprog2 (zovW []) 100000 zcut0 3 420 kX8_passes (zkinL zyx803q) 0 (zargs 0 zyx803a, [], (zyh986.1, zyh986.2.1, 0), 0, 0) = true := zall_ok zyg16_ok (k := 31) (a := zbzyx803e) rfl
theorem zyx803 {l : Launch} {D : va_G} {tys : List (ClassId × FieldType)} {o : zO} {z : Nat} (E : zEnv tys) : zKnW l D vwCl tys o z (zXX o z) zTs zprog2 zyx803d :=
  zkn_ml E (fun g => fun _ h => absurd h List.not_mem_nil) (show zget zprog2 263 = some mX8_passes from rfl) rfl (by decide) (by decide) (by decide) (by decide) zyx803e
theorem zyx804e : zrunw zprog2 (zovW []) 100000 zcut0 3 420 kX8_passes (zkinL zyx804q) 0 (zargs 0 zyx804a, [], (zyh989.1, zyh989.2.1, 0), 0, 0) = true := zall_ok zyg16_ok (k := 32) (a := zbzyx804e) rfl
theorem zyx804 {l : Launch} {D : va_G} {tys : List (ClassId × FieldType)} {o : zO} {z : Nat} (E : zEnv tys) : zKnW l D vwCl tys o z (zXX o z) zTs zprog2 zyx804d :=
  zkn_ml E (fun g => fun _ h => absurd h List.not_mem_nil) (show zget zprog2 263 = some mX8_passes from rfl) rfl (by decide) (by decide) (by decide) (by decide) zyx804e
theorem zyx805e : zrunw zprog2 (zovW []) 100000 zcut0 3 420 kX8_passes (zkinL zyx805q) 0 (zargs 0 zyx805a, [], (zyh992.1, zyh992.2.1, 0), 0, 0) = true := zall_ok zyg16_ok (k := 33) (a := zbzyx805e) rfl
theorem zyx805 {l : Launch} {D : va_G} {tys : List (ClassId × FieldType)} {o : zO} {z : Nat} (E : zEnv tys) : zKnW l D vwCl tys o z (zXX o z) zTs zprog2 zyx805d :=
  zkn_ml E (fun g => fun _ h => absurd h List.not_mem_nil) (show zget zprog2 263 = some mX8_passes from rfl) rfl (by decide) (by decide) (by decide) (by decide) zyx805e
theorem zyx806e : zrunw zprog2 (zovW []) 100000 zcut0 3 420 kX8_passes (zkinL zyx806q) 0 (zargs 0 zyx806a, [], (zyh995.1, zyh995.2.1, 0), 0, 0) = true := zall_ok zyg16_ok (k := 34) (a := zbzyx806e) rfl
theorem zyx806 {l : Launch} {D : va_G} {tys : List (ClassId × FieldType)} {o : zO} {z : Nat} (E : zEnv tys) : zKnW l D vwCl tys o z (zXX o z) zTs zprog2 zyx806d :=
  zkn_ml E (fun g => fun _ h => absurd h List.not_mem_nil) (show zget zprog2 263 = some mX8_passes from rfl) rfl (by decide) (by decide) (by decide) (by decide) zyx806e
theorem zyx807e : zrunw zprog2 (zovW []) 100000 zcut0 3 420 kX8_passes (zkinL zyx807q) 0 (zargs 0 zyx807a, [], (zyh998.1, zyh998.2.1, 0), 0, 0) = true := zall_ok zyg16_ok (k := 35) (a := zbzyx807e) rfl
theorem zyx807 {l : Launch} {D : va_G} {tys : List (ClassId × FieldType)} {o : zO} {z : Nat} (E : zEnv tys) : zKnW l D vwCl tys o z (zXX o z) zTs zprog2 zyx807d :=
  zkn_ml E (fun g => fun _ h => absurd h List.not_mem_nil) (show zget zprog2 263 = some mX8_passes from rfl) rfl (by decide) (by decide) (by decide) (by decide) zyx807e
theorem zyx808e : zrunw zprog2 (zovW []) 100000 zcut0 3 420 kX8_passes (zkinL zyx808q) 0 (zargs 0 zyx808a, [], (zyh1001.1, zyh1001.2.1, 0), 0, 0) = true := zall_ok zyg16_ok (k := 36) (a := zbzyx808e) rfl
theorem zyx808 {l : Launch} {D : va_G} {tys : List (ClassId × FieldType)} {o : zO} {z : Nat} (E : zEnv tys) : zKnW l D vwCl tys o z (zXX o z) zTs zprog2 zyx808d :=
  zkn_ml E (fun g => fun _ h => absurd h List.not_mem_nil) (show zget zprog2 263 = some mX8_passes from rfl) rfl (by decide) (by decide) (by decide) (by decide) zyx808e
theorem zyx809e : zrunw zprog2 (zovW []) 100000 zcut0 3 420 kX8_passes (zkinL zyx809q) 0 (zargs 0 zyx809a, [], (zyh1004.1, zyh1004.2.1, 0), 0, 0) = true := zall_ok zyg16_ok (k := 37) (a := zbzyx809e) rfl
theorem zyx809 {l : Launch} {D : va_G} {tys : List (ClassId × FieldType)} {o : zO} {z : Nat} (E : zEnv tys) : zKnW l D vwCl tys o z (zXX o z) zTs zprog2 zyx809d :=
  zkn_ml E (fun g => fun _ h => absurd h List.not_mem_nil) (show zget zprog2 263 = some mX8_passes from rfl) rfl (by decide) (by decide) (by decide) (by decide) zyx809e
theorem zyx810e : zrunw zprog2 (zovW []) 100000 zcut0 3 420 kX8_passes (zkinL zyx810q) 0 (zargs 0 zyx810a, [], (zyh1007.1, zyh1007.2.1, 0), 0, 0) = true := zall_ok zyg16_ok (k := 38) (a := zbzyx810e) rfl
theorem zyx810 {l : Launch} {D : va_G} {tys : List (ClassId × FieldType)} {o : zO} {z : Nat} (E : zEnv tys) : zKnW l D vwCl tys o z (zXX o z) zTs zprog2 zyx810d :=
  zkn_ml E (fun g => fun _ h => absurd h List.not_mem_nil) (show zget zprog2 263 = some mX8_passes from rfl) rfl (by decide) (by decide) (by decide) (by decide) zyx810e
theorem zyx811e : zrunw zprog2 (zovW []) 100000 zcut0 3 420 kX8_passes (zkinL zyx811q) 0 (zargs 0 zyx811a, [], (zyh1010.1, zyh1010.2.1, 0), 0, 0) = true := zall_ok zyg16_ok (k := 39) (a := zbzyx811e) rfl
theorem zyx811 {l : Launch} {D : va_G} {tys : List (ClassId × FieldType)} {o : zO} {z : Nat} (E : zEnv tys) : zKnW l D vwCl tys o z (zXX o z) zTs zprog2 zyx811d :=
  zkn_ml E (fun g => fun _ h => absurd h List.not_mem_nil) (show zget zprog2 263 = some mX8_passes from rfl) rfl (by decide) (by decide) (by decide) (by decide) zyx811e
theorem zyx812e : zrunw zprog2 (zovW []) 100000 zcut0 3 420 kX8_passes (zkinL zyx812q) 0 (zargs 0 zyx812a, [], (zyh1013.1, zyh1013.2.1, 0), 0, 0) = true := zall_ok zyg16_ok (k := 40) (a := zbzyx812e) rfl
theorem zyx812 {l : Launch} {D : va_G} {tys : List (ClassId × FieldType)} {o : zO} {z : Nat} (E : zEnv tys) : zKnW l D vwCl tys o z (zXX o z) zTs zprog2 zyx812d :=
  zkn_ml E (fun g => fun _ h => absurd h List.not_mem_nil) (show zget zprog2 263 = some mX8_passes from rfl) rfl (by decide) (by decide) (by decide) (by decide) zyx812e
theorem zyx813e : zrunw zprog2 (zovW []) 100000 zcut0 3 420 kX8_passes (zkinL zyx813q) 0 (zargs 0 zyx813a, [], (zyh1016.1, zyh1016.2.1, 0), 0, 0) = true := zall_ok zyg16_ok (k := 41) (a := zbzyx813e) rfl
theorem zyx813 {l : Launch} {D : va_G} {tys : List (ClassId × FieldType)} {o : zO} {z : Nat} (E : zEnv tys) : zKnW l D vwCl tys o z (zXX o z) zTs zprog2 zyx813d :=
  zkn_ml E (fun g => fun _ h => absurd h List.not_mem_nil) (show zget zprog2 263 = some mX8_passes from rfl) rfl (by decide) (by decide) (by decide) (by decide) zyx813e
theorem zyx814e : zrunw zprog2 (zovW []) 100000 zcut0 3 420 kX8_passes (zkinL zyx814q) 0 (zargs 0 zyx814a, [], (zyh1019.1, zyh1019.2.1, 0), 0, 0) = true := zall_ok zyg16_ok (k := 42) (a := zbzyx814e) rfl
theorem zyx814 {l : Launch} {D : va_G} {tys : List (ClassId × FieldType)} {o : zO} {z : Nat} (E : zEnv tys) : zKnW l D vwCl tys o z (zXX o z) zTs zprog2 zyx814d :=
  zkn_ml E (fun g => fun _ h => absurd h List.not_mem_nil) (show zget zprog2 263 = some mX8_passes from rfl) rfl (by decide) (by decide) (by decide) (by decide) zyx814e
theorem zyx815e : zrunw zprog2 (zovW []) 100000 zcut0 3 420 kX8_passes (zkinL zyx815q) 0 (zargs 0 zyx815a, [], (zyh1022.1, zyh1022.2.1, 0), 0, 0) = true := zall_ok zyg16_ok (k := 43) (a := zbzyx815e) rfl
theorem zyx815 {l : Launch} {D : va_G} {tys : List (ClassId × FieldType)} {o : zO} {z : Nat} (E : zEnv tys) : zKnW l D vwCl tys o z (zXX o z) zTs zprog2 zyx815d :=
  zkn_ml E (fun g => fun _ h => absurd h List.not_mem_nil) (show zget zprog2 263 = some mX8_passes from rfl) rfl (by decide) (by decide) (by decide) (by decide) zyx815e
theorem zyx816e : zrunw zprog2 (zovW []) 100000 zcut0 3 420 kX8_passes (zkinL zyx816q) 0 (zargs 0 zyx816a, [], (zyh1025.1, zyh1025.2.1, 0), 0, 0) = true := zall_ok zyg16_ok (k := 44) (a := zbzyx816e) rfl
theorem zyx816 {l : Launch} {D : va_G} {tys : List (ClassId × FieldType)} {o : zO} {z : Nat} (E : zEnv tys) : zKnW l D vwCl tys o z (zXX o z) zTs zprog2 zyx816d :=
  zkn_ml E (fun g => fun _ h => absurd h List.not_mem_nil) (show zget zprog2 263 = some mX8_passes from rfl) rfl (by decide) (by decide) (by decide) (by decide) zyx816e
theorem zyx817e : zrunw zprog2 (zovW []) 100000 zcut0 3 420 kX8_passes (zkinL zyx817q) 0 (zargs 0 zyx817a, [], (zyh1028.1, zyh1028.2.1, 0), 0, 0) = true := zall_ok zyg16_ok (k := 45) (a := zbzyx817e) rfl
theorem zyx817 {l : Launch} {D : va_G} {tys : List (ClassId × FieldType)} {o : zO} {z : Nat} (E : zEnv tys) : zKnW l D vwCl tys o z (zXX o z) zTs zprog2 zyx817d :=
  zkn_ml E (fun g => fun _ h => absurd h List.not_mem_nil) (show zget zprog2 263 = some mX8_passes from rfl) rfl (by decide) (by decide) (by decide) (by decide) zyx817e
theorem zyx818e : zrunw zprog2 (zovW []) 100000 zcut0 3 420 kX8_passes (zkinL zyx818q) 0 (zargs 0 zyx818a, [], (zyh1031.1, zyh1031.2.1, 0), 0, 0) = true := zall_ok zyg16_ok (k := 46) (a := zbzyx818e) rfl
theorem zyx818 {l : Launch} {D : va_G} {tys : List (ClassId × FieldType)} {o : zO} {z : Nat} (E : zEnv tys) : zKnW l D vwCl tys o z (zXX o z) zTs zprog2 zyx818d :=
  zkn_ml E (fun g => fun _ h => absurd h List.not_mem_nil) (show zget zprog2 263 = some mX8_passes from rfl) rfl (by decide) (by decide) (by decide) (by decide) zyx818e
theorem zyx819e : zrunw zprog2 (zovW []) 100000 zcut0 3 420 kX8_passes (zkinL zyx819q) 0 (zargs 0 zyx819a, [], (zyh1034.1, zyh1034.2.1, 0), 0, 0) = true := zall_ok zyg16_ok (k := 47) (a := zbzyx819e) rfl
theorem zyx819 {l : Launch} {D : va_G} {tys : List (ClassId × FieldType)} {o : zO} {z : Nat} (E : zEnv tys) : zKnW l D vwCl tys o z (zXX o z) zTs zprog2 zyx819d :=
  zkn_ml E (fun g => fun _ h => absurd h List.not_mem_nil) (show zget zprog2 263 = some mX8_passes from rfl) rfl (by decide) (by decide) (by decide) (by decide) zyx819e
theorem zyx820e : zrunw zprog2 (zovW []) 100000 zcut0 3 420 kX8_passes (zkinL zyx820q) 0 (zargs 0 zyx820a, [], (zyh1037.1, zyh1037.2.1, 0), 0, 0) = true := zall_ok zyg16_ok (k := 48) (a := zbzyx820e) rfl
theorem zyx820 {l : Launch} {D : va_G} {tys : List (ClassId × FieldType)} {o : zO} {z : Nat} (E : zEnv tys) : zKnW l D vwCl tys o z (zXX o z) zTs zprog2 zyx820d :=
  zkn_ml E (fun g => fun _ h => absurd h List.not_mem_nil) (show zget zprog2 263 = some mX8_passes from rfl) rfl (by decide) (by decide) (by decide) (by decide) zyx820e
theorem zyx821e : zrunw zprog2 (zovW [zyx820d]) 100000 (zcutW [] none ((zyx821r, zyh1038), 4, 540) zyx821p) 4 540 k2X8_thing (zkin zyx821r zyh1038) 0 (zargs 0 zyx821a, [], (zyh1037.1, zyh1037.2.1, 0), 0, 0) = true := zall_ok zyg16_ok (k := 49) (a := zbzyx821e) rfl
theorem zyx821 {l : Launch} {D : va_G} {tys : List (ClassId × FieldType)} {o : zO} {z : Nat} (E : zEnv tys) : zKnW l D vwCl tys o z (zXX o z) zTs zprog2 zyx821d :=
  zkn_mk E (fun g => List.forall_mem_cons.mpr ⟨zyx820 (o := zwith o g) E, fun _ h => absurd h List.not_mem_nil⟩) (show zget zprog2 292 = some m2X8_thing from rfl) rfl (by decide) (by decide) (by decide) (by decide) (G := zyx821p) (fun _ h => absurd h List.not_mem_nil) zyx821e
theorem zyx822c : zchkX [(94, 15)] zprog2 (zovW [zyx821d]) 100000 k2X8_product [] [zyx822q] [zyx822q] = true := zall_ok zyg16_ok (k := 50) (a := zbzyx822c) rfl
theorem zyx822k {l : Launch} {D : va_G} {tys : List (ClassId × FieldType)} {o : zO} {z : Nat} (E : zEnv tys) : zPtOk l D vwCl tys o z (zXX o z) zTs m2X8_product zyx822q := zkn_pt E (fun g => List.forall_mem_cons.mpr ⟨zyx821 (o := zwith o g) E, fun _ h => absurd h List.not_mem_nil⟩) (show zget zprog2 265 = some m2X8_product from rfl) (fun _ h => absurd h List.not_mem_nil) zyx822c _ List.mem_cons_self
theorem zyx822e : zrunw zprog2 (zovW [zyx821d]) 100000 (zcutW [(94, 15)] none ((zyx822r, zyh1038), 5, 660) [zyx822q]) 5 660 k2X8_product (zkin zyx822r zyh1038) 0 (zargs 0 zyx822a, [], (zyh1037.1, zyh1037.2.1, 0), 0, 0) = true := zall_ok zyg16_ok (k := 51) (a := zbzyx822e) rfl
theorem zyx822 {l : Launch} {D : va_G} {tys : List (ClassId × FieldType)} {o : zO} {z : Nat} (E : zEnv tys) : zKnW l D vwCl tys o z (zXX o z) zTs zprog2 zyx822d :=
  zkn_mk E (fun g => List.forall_mem_cons.mpr ⟨zyx821 (o := zwith o g) E, fun _ h => absurd h List.not_mem_nil⟩) (show zget zprog2 265 = some m2X8_product from rfl) rfl (by decide) (by decide) (by decide) (by decide) (G := [zyx822q]) (List.forall_mem_cons.mpr ⟨zyx822k E, fun _ h => absurd h List.not_mem_nil⟩) zyx822e
theorem zyx823c : zchkX [(94, 15)] zprog2 (zovW [zyx822d]) 100000 kX8_sum [] [zyx823q] [zyx823q] = true := zall_ok zyg16_ok (k := 52) (a := zbzyx823c) rfl
theorem zyx823k {l : Launch} {D : va_G} {tys : List (ClassId × FieldType)} {o : zO} {z : Nat} (E : zEnv tys) : zPtOk l D vwCl tys o z (zXX o z) zTs mX8_sum zyx823q := zkn_pt E (fun g => List.forall_mem_cons.mpr ⟨zyx822 (o := zwith o g) E, fun _ h => absurd h List.not_mem_nil⟩) (show zget zprog2 284 = some mX8_sum from rfl) (fun _ h => absurd h List.not_mem_nil) zyx823c _ List.mem_cons_self
theorem zyx823e : zrunw zprog2 (zovW [zyx822d]) 100000 (zcutW [(94, 15)] none ((zyx823r, zyh1038), 6, 780) [zyx823q]) 6 780 kX8_sum (zkin zyx823r zyh1038) 0 (zargs 0 zyx823a, [], (zyh1037.1, zyh1037.2.1, 0), 0, 0) = true := zall_ok zyg16_ok (k := 53) (a := zbzyx823e) rfl
theorem zyx823 {l : Launch} {D : va_G} {tys : List (ClassId × FieldType)} {o : zO} {z : Nat} (E : zEnv tys) : zKnW l D vwCl tys o z (zXX o z) zTs zprog2 zyx823d :=
  zkn_mk E (fun g => List.forall_mem_cons.mpr ⟨zyx822 (o := zwith o g) E, fun _ h => absurd h List.not_mem_nil⟩) (show zget zprog2 284 = some mX8_sum from rfl) rfl (by decide) (by decide) (by decide) (by decide) (G := [zyx823q]) (List.forall_mem_cons.mpr ⟨zyx823k E, fun _ h => absurd h List.not_mem_nil⟩) zyx823e
theorem zyx824e : zrunw zprog2 (zovW [zyx823d, zyx820d]) 100000 (zcutW [] none ((zyx824r, zyh1038), 7, 900) zyx824p) 7 900 kX8_heldBy (zkin zyx824r zyh1038) 0 (zargs 0 zyx824a, [], (zyh1037.1, zyh1037.2.1, 0), 0, 0) = true := zall_ok zyg16_ok (k := 54) (a := zbzyx824e) rfl
theorem zyx824 {l : Launch} {D : va_G} {tys : List (ClassId × FieldType)} {o : zO} {z : Nat} (E : zEnv tys) : zKnW l D vwCl tys o z (zXX o z) zTs zprog2 zyx824d :=
  zkn_mk E (fun g => List.forall_mem_cons.mpr ⟨zyx823 (o := zwith o g) E, List.forall_mem_cons.mpr ⟨zyx820 (o := zwith o g) E, fun _ h => absurd h List.not_mem_nil⟩⟩) (show zget zprog2 229 = some mX8_heldBy from rfl) rfl (by decide) (by decide) (by decide) (by decide) (G := zyx824p) (fun _ h => absurd h List.not_mem_nil) zyx824e
theorem zyx825e : zrunw zprog2 (zovW []) 100000 zcut0 4 480 kX8_oneOf (zkinL zyx825q) 0 (zargs 0 zyx825a, [], (zyh1034.1, zyh1034.2.1, 0), 0, 0) = true := zall_ok zyg16_ok (k := 55) (a := zbzyx825e) rfl
theorem zyx825 {l : Launch} {D : va_G} {tys : List (ClassId × FieldType)} {o : zO} {z : Nat} (E : zEnv tys) : zKnW l D vwCl tys o z (zXX o z) zTs zprog2 zyx825d :=
  zkn_ml E (fun g => fun _ h => absurd h List.not_mem_nil) (show zget zprog2 260 = some mX8_oneOf from rfl) rfl (by decide) (by decide) (by decide) (by decide) zyx825e
theorem zyx826c : zchkX [] zprog2 (zovW [zyx825d]) 100000 kX8_number [] zyx826p zyx826p = true := zall_ok zyg16_ok (k := 56) (a := zbzyx826c) rfl
theorem zyx826e : zrunw zprog2 (zovW [zyx825d]) 100000 (zcutW [] none ((zyx826r, zyh1035), 5, 600) zyx826p) 5 600 kX8_number (zkin zyx826r zyh1035) 0 (zargs 0 zyx826a, [], (zyh1034.1, zyh1034.2.1, 0), 0, 0) = true := zall_ok zyg16_ok (k := 57) (a := zbzyx826e) rfl
theorem zyx826 {l : Launch} {D : va_G} {tys : List (ClassId × FieldType)} {o : zO} {z : Nat} (E : zEnv tys) : zKnW l D vwCl tys o z (zXX o z) zTs zprog2 zyx826d :=
  zkn_mk E (fun g => List.forall_mem_cons.mpr ⟨zyx825 (o := zwith o g) E, fun _ h => absurd h List.not_mem_nil⟩) (show zget zprog2 259 = some mX8_number from rfl) rfl (by decide) (by decide) (by decide) (by decide) (G := zyx826p) (zkn_pt E (fun g => List.forall_mem_cons.mpr ⟨zyx825 (o := zwith o g) E, fun _ h => absurd h List.not_mem_nil⟩) (show zget zprog2 259 = some mX8_number from rfl) (fun _ h => absurd h List.not_mem_nil) zyx826c) zyx826e
theorem zyx827e : zrunw zprog2 (zovW [zyx824d, zyx821d, zyx820d, zyx826d, zyx819d]) 100000 (zcutW [] none ((zyx827r, zyh1035), 8, 1020) zyx827p) 8 1020 k2X8_thing (zkin zyx827r zyh1035) 0 (zargs 0 zyx827a, [], (zyh1034.1, zyh1034.2.1, 0), 0, 0) = true := zall_ok zyg16_ok (k := 58) (a := zbzyx827e) rfl
theorem zyx827 {l : Launch} {D : va_G} {tys : List (ClassId × FieldType)} {o : zO} {z : Nat} (E : zEnv tys) : zKnW l D vwCl tys o z (zXX o z) zTs zprog2 zyx827d :=
  zkn_mk E (fun g => List.forall_mem_cons.mpr ⟨zyx824 (o := zwith o g) E, List.forall_mem_cons.mpr ⟨zyx821 (o := zwith o g) E, List.forall_mem_cons.mpr ⟨zyx820 (o := zwith o g) E, List.forall_mem_cons.mpr ⟨zyx826 (o := zwith o g) E, List.forall_mem_cons.mpr ⟨zyx819 (o := zwith o g) E, fun _ h => absurd h List.not_mem_nil⟩⟩⟩⟩⟩) (show zget zprog2 292 = some m2X8_thing from rfl) rfl (by decide) (by decide) (by decide) (by decide) (G := zyx827p) (fun _ h => absurd h List.not_mem_nil) zyx827e
theorem zyx828c : zchkX [(94, 15)] zprog2 (zovW [zyx821d, zyx827d]) 100000 k2X8_product [zyx822q] [zyx828q] [zyx828q] = true := zall_ok zyg16_ok (k := 59) (a := zbzyx828c) rfl
theorem zyx828k {l : Launch} {D : va_G} {tys : List (ClassId × FieldType)} {o : zO} {z : Nat} (E : zEnv tys) : zPtOk l D vwCl tys o z (zXX o z) zTs m2X8_product zyx828q := zkn_pt E (fun g => List.forall_mem_cons.mpr ⟨zyx821 (o := zwith o g) E, List.forall_mem_cons.mpr ⟨zyx827 (o := zwith o g) E, fun _ h => absurd h List.not_mem_nil⟩⟩) (show zget zprog2 265 = some m2X8_product from rfl) (List.forall_mem_cons.mpr ⟨zyx822k E, fun _ h => absurd h List.not_mem_nil⟩) zyx828c _ List.mem_cons_self
theorem zyx828e : zrunw zprog2 (zovW [zyx821d, zyx827d]) 100000 (zcutW [(94, 15)] none ((zyx828r, zyh1035), 9, 1140) [zyx828q, zyx822q]) 9 1140 k2X8_product (zkin zyx828r zyh1035) 0 (zargs 0 zyx828a, [], (zyh1034.1, zyh1034.2.1, 0), 0, 0) = true := zall_ok zyg16_ok (k := 60) (a := zbzyx828e) rfl
theorem zyx828 {l : Launch} {D : va_G} {tys : List (ClassId × FieldType)} {o : zO} {z : Nat} (E : zEnv tys) : zKnW l D vwCl tys o z (zXX o z) zTs zprog2 zyx828d :=
  zkn_mk E (fun g => List.forall_mem_cons.mpr ⟨zyx821 (o := zwith o g) E, List.forall_mem_cons.mpr ⟨zyx827 (o := zwith o g) E, fun _ h => absurd h List.not_mem_nil⟩⟩) (show zget zprog2 265 = some m2X8_product from rfl) rfl (by decide) (by decide) (by decide) (by decide) (G := [zyx828q, zyx822q]) (List.forall_mem_cons.mpr ⟨zyx828k E, List.forall_mem_cons.mpr ⟨zyx822k E, fun _ h => absurd h List.not_mem_nil⟩⟩) zyx828e
theorem zyx829c : zchkX [(94, 15)] zprog2 (zovW [zyx822d, zyx828d]) 100000 kX8_sum [zyx823q] [zyx829q] [zyx829q] = true := zall_ok zyg16_ok (k := 61) (a := zbzyx829c) rfl
theorem zyx829k {l : Launch} {D : va_G} {tys : List (ClassId × FieldType)} {o : zO} {z : Nat} (E : zEnv tys) : zPtOk l D vwCl tys o z (zXX o z) zTs mX8_sum zyx829q := zkn_pt E (fun g => List.forall_mem_cons.mpr ⟨zyx822 (o := zwith o g) E, List.forall_mem_cons.mpr ⟨zyx828 (o := zwith o g) E, fun _ h => absurd h List.not_mem_nil⟩⟩) (show zget zprog2 284 = some mX8_sum from rfl) (List.forall_mem_cons.mpr ⟨zyx823k E, fun _ h => absurd h List.not_mem_nil⟩) zyx829c _ List.mem_cons_self
theorem zyx829e : zrunw zprog2 (zovW [zyx822d, zyx828d]) 100000 (zcutW [(94, 15)] none ((zyx829r, zyh1035), 10, 1260) [zyx829q, zyx823q]) 10 1260 kX8_sum (zkin zyx829r zyh1035) 0 (zargs 0 zyx829a, [], (zyh1034.1, zyh1034.2.1, 0), 0, 0) = true := zall_ok zyg16_ok (k := 62) (a := zbzyx829e) rfl
theorem zyx829 {l : Launch} {D : va_G} {tys : List (ClassId × FieldType)} {o : zO} {z : Nat} (E : zEnv tys) : zKnW l D vwCl tys o z (zXX o z) zTs zprog2 zyx829d :=
  zkn_mk E (fun g => List.forall_mem_cons.mpr ⟨zyx822 (o := zwith o g) E, List.forall_mem_cons.mpr ⟨zyx828 (o := zwith o g) E, fun _ h => absurd h List.not_mem_nil⟩⟩) (show zget zprog2 284 = some mX8_sum from rfl) rfl (by decide) (by decide) (by decide) (by decide) (G := [zyx829q, zyx823q]) (List.forall_mem_cons.mpr ⟨zyx829k E, List.forall_mem_cons.mpr ⟨zyx823k E, fun _ h => absurd h List.not_mem_nil⟩⟩) zyx829e
theorem zyx830e : zrunw zprog2 (zovW [zyx823d, zyx829d, zyx819d]) 100000 (zcutW [] none ((zyx830r, zyh1035), 11, 1380) zyx830p) 11 1380 kX8_heldBy (zkin zyx830r zyh1035) 0 (zargs 0 zyx830a, [], (zyh1034.1, zyh1034.2.1, 0), 0, 0) = true := zall_ok zyg16_ok (k := 63) (a := zbzyx830e) rfl
theorem zyx830 {l : Launch} {D : va_G} {tys : List (ClassId × FieldType)} {o : zO} {z : Nat} (E : zEnv tys) : zKnW l D vwCl tys o z (zXX o z) zTs zprog2 zyx830d :=
  zkn_mk E (fun g => List.forall_mem_cons.mpr ⟨zyx823 (o := zwith o g) E, List.forall_mem_cons.mpr ⟨zyx829 (o := zwith o g) E, List.forall_mem_cons.mpr ⟨zyx819 (o := zwith o g) E, fun _ h => absurd h List.not_mem_nil⟩⟩⟩) (show zget zprog2 229 = some mX8_heldBy from rfl) rfl (by decide) (by decide) (by decide) (by decide) (G := zyx830p) (fun _ h => absurd h List.not_mem_nil) zyx830e
theorem zyx831e : zrunw zprog2 (zovW []) 100000 zcut0 4 480 kX8_oneOf (zkinL zyx831q) 0 (zargs 0 zyx831a, [], (zyh1031.1, zyh1031.2.1, 0), 0, 0) = true := zall_ok zyg16_ok (k := 64) (a := zbzyx831e) rfl
theorem zyx831 {l : Launch} {D : va_G} {tys : List (ClassId × FieldType)} {o : zO} {z : Nat} (E : zEnv tys) : zKnW l D vwCl tys o z (zXX o z) zTs zprog2 zyx831d :=
  zkn_ml E (fun g => fun _ h => absurd h List.not_mem_nil) (show zget zprog2 260 = some mX8_oneOf from rfl) rfl (by decide) (by decide) (by decide) (by decide) zyx831e
theorem zyx832c : zchkX [] zprog2 (zovW [zyx831d]) 100000 kX8_number [] zyx832p zyx832p = true := zall_ok zyg16_ok (k := 65) (a := zbzyx832c) rfl
theorem zyx832e : zrunw zprog2 (zovW [zyx831d]) 100000 (zcutW [] none ((zyx832r, zyh1032), 5, 600) zyx832p) 5 600 kX8_number (zkin zyx832r zyh1032) 0 (zargs 0 zyx832a, [], (zyh1031.1, zyh1031.2.1, 0), 0, 0) = true := zall_ok zyg16_ok (k := 66) (a := zbzyx832e) rfl
theorem zyx832 {l : Launch} {D : va_G} {tys : List (ClassId × FieldType)} {o : zO} {z : Nat} (E : zEnv tys) : zKnW l D vwCl tys o z (zXX o z) zTs zprog2 zyx832d :=
  zkn_mk E (fun g => List.forall_mem_cons.mpr ⟨zyx831 (o := zwith o g) E, fun _ h => absurd h List.not_mem_nil⟩) (show zget zprog2 259 = some mX8_number from rfl) rfl (by decide) (by decide) (by decide) (by decide) (G := zyx832p) (zkn_pt E (fun g => List.forall_mem_cons.mpr ⟨zyx831 (o := zwith o g) E, fun _ h => absurd h List.not_mem_nil⟩) (show zget zprog2 259 = some mX8_number from rfl) (fun _ h => absurd h List.not_mem_nil) zyx832c) zyx832e
theorem zyx833e : zrunw zprog2 (zovW [zyx830d, zyx827d, zyx819d, zyx832d, zyx818d]) 100000 (zcutW [] none ((zyx833r, zyh1032), 12, 1500) zyx833p) 12 1500 k2X8_thing (zkin zyx833r zyh1032) 0 (zargs 0 zyx833a, [], (zyh1031.1, zyh1031.2.1, 0), 0, 0) = true := zall_ok zyg16_ok (k := 67) (a := zbzyx833e) rfl
theorem zyx833 {l : Launch} {D : va_G} {tys : List (ClassId × FieldType)} {o : zO} {z : Nat} (E : zEnv tys) : zKnW l D vwCl tys o z (zXX o z) zTs zprog2 zyx833d :=
  zkn_mk E (fun g => List.forall_mem_cons.mpr ⟨zyx830 (o := zwith o g) E, List.forall_mem_cons.mpr ⟨zyx827 (o := zwith o g) E, List.forall_mem_cons.mpr ⟨zyx819 (o := zwith o g) E, List.forall_mem_cons.mpr ⟨zyx832 (o := zwith o g) E, List.forall_mem_cons.mpr ⟨zyx818 (o := zwith o g) E, fun _ h => absurd h List.not_mem_nil⟩⟩⟩⟩⟩) (show zget zprog2 292 = some m2X8_thing from rfl) rfl (by decide) (by decide) (by decide) (by decide) (G := zyx833p) (fun _ h => absurd h List.not_mem_nil) zyx833e
theorem zyx834c : zchkX [(94, 15)] zprog2 (zovW [zyx827d, zyx833d]) 100000 k2X8_product [zyx828q, zyx822q] [zyx834q] [zyx834q] = true := zall_ok zyg16_ok (k := 68) (a := zbzyx834c) rfl
theorem zyx834k {l : Launch} {D : va_G} {tys : List (ClassId × FieldType)} {o : zO} {z : Nat} (E : zEnv tys) : zPtOk l D vwCl tys o z (zXX o z) zTs m2X8_product zyx834q := zkn_pt E (fun g => List.forall_mem_cons.mpr ⟨zyx827 (o := zwith o g) E, List.forall_mem_cons.mpr ⟨zyx833 (o := zwith o g) E, fun _ h => absurd h List.not_mem_nil⟩⟩) (show zget zprog2 265 = some m2X8_product from rfl) (List.forall_mem_cons.mpr ⟨zyx828k E, List.forall_mem_cons.mpr ⟨zyx822k E, fun _ h => absurd h List.not_mem_nil⟩⟩) zyx834c _ List.mem_cons_self
theorem zyx834e : zrunw zprog2 (zovW [zyx827d, zyx833d]) 100000 (zcutW [(94, 15)] none ((zyx834r, zyh1032), 13, 1620) [zyx834q, zyx828q, zyx822q]) 13 1620 k2X8_product (zkin zyx834r zyh1032) 0 (zargs 0 zyx834a, [], (zyh1031.1, zyh1031.2.1, 0), 0, 0) = true := zall_ok zyg16_ok (k := 69) (a := zbzyx834e) rfl
theorem zyx834 {l : Launch} {D : va_G} {tys : List (ClassId × FieldType)} {o : zO} {z : Nat} (E : zEnv tys) : zKnW l D vwCl tys o z (zXX o z) zTs zprog2 zyx834d :=
  zkn_mk E (fun g => List.forall_mem_cons.mpr ⟨zyx827 (o := zwith o g) E, List.forall_mem_cons.mpr ⟨zyx833 (o := zwith o g) E, fun _ h => absurd h List.not_mem_nil⟩⟩) (show zget zprog2 265 = some m2X8_product from rfl) rfl (by decide) (by decide) (by decide) (by decide) (G := [zyx834q, zyx828q, zyx822q]) (List.forall_mem_cons.mpr ⟨zyx834k E, List.forall_mem_cons.mpr ⟨zyx828k E, List.forall_mem_cons.mpr ⟨zyx822k E, fun _ h => absurd h List.not_mem_nil⟩⟩⟩) zyx834e
theorem zyx835c : zchkX [(94, 15)] zprog2 (zovW [zyx828d, zyx834d]) 100000 kX8_sum [zyx829q, zyx823q] [zyx835q] [zyx835q] = true := zall_ok zyg16_ok (k := 70) (a := zbzyx835c) rfl
theorem zyx835k {l : Launch} {D : va_G} {tys : List (ClassId × FieldType)} {o : zO} {z : Nat} (E : zEnv tys) : zPtOk l D vwCl tys o z (zXX o z) zTs mX8_sum zyx835q := zkn_pt E (fun g => List.forall_mem_cons.mpr ⟨zyx828 (o := zwith o g) E, List.forall_mem_cons.mpr ⟨zyx834 (o := zwith o g) E, fun _ h => absurd h List.not_mem_nil⟩⟩) (show zget zprog2 284 = some mX8_sum from rfl) (List.forall_mem_cons.mpr ⟨zyx829k E, List.forall_mem_cons.mpr ⟨zyx823k E, fun _ h => absurd h List.not_mem_nil⟩⟩) zyx835c _ List.mem_cons_self
theorem zyx835e : zrunw zprog2 (zovW [zyx828d, zyx834d]) 100000 (zcutW [(94, 15)] none ((zyx835r, zyh1032), 14, 1740) [zyx835q, zyx829q, zyx823q]) 14 1740 kX8_sum (zkin zyx835r zyh1032) 0 (zargs 0 zyx835a, [], (zyh1031.1, zyh1031.2.1, 0), 0, 0) = true := zall_ok zyg16_ok (k := 71) (a := zbzyx835e) rfl
theorem zyx835 {l : Launch} {D : va_G} {tys : List (ClassId × FieldType)} {o : zO} {z : Nat} (E : zEnv tys) : zKnW l D vwCl tys o z (zXX o z) zTs zprog2 zyx835d :=
  zkn_mk E (fun g => List.forall_mem_cons.mpr ⟨zyx828 (o := zwith o g) E, List.forall_mem_cons.mpr ⟨zyx834 (o := zwith o g) E, fun _ h => absurd h List.not_mem_nil⟩⟩) (show zget zprog2 284 = some mX8_sum from rfl) rfl (by decide) (by decide) (by decide) (by decide) (G := [zyx835q, zyx829q, zyx823q]) (List.forall_mem_cons.mpr ⟨zyx835k E, List.forall_mem_cons.mpr ⟨zyx829k E, List.forall_mem_cons.mpr ⟨zyx823k E, fun _ h => absurd h List.not_mem_nil⟩⟩⟩) zyx835e
theorem zyx836e : zrunw zprog2 (zovW [zyx829d, zyx835d, zyx818d]) 100000 (zcutW [] none ((zyx836r, zyh1032), 15, 1860) zyx836p) 15 1860 kX8_heldBy (zkin zyx836r zyh1032) 0 (zargs 0 zyx836a, [], (zyh1031.1, zyh1031.2.1, 0), 0, 0) = true := zall_ok zyg16_ok (k := 72) (a := zbzyx836e) rfl
theorem zyx836 {l : Launch} {D : va_G} {tys : List (ClassId × FieldType)} {o : zO} {z : Nat} (E : zEnv tys) : zKnW l D vwCl tys o z (zXX o z) zTs zprog2 zyx836d :=
  zkn_mk E (fun g => List.forall_mem_cons.mpr ⟨zyx829 (o := zwith o g) E, List.forall_mem_cons.mpr ⟨zyx835 (o := zwith o g) E, List.forall_mem_cons.mpr ⟨zyx818 (o := zwith o g) E, fun _ h => absurd h List.not_mem_nil⟩⟩⟩) (show zget zprog2 229 = some mX8_heldBy from rfl) rfl (by decide) (by decide) (by decide) (by decide) (G := zyx836p) (fun _ h => absurd h List.not_mem_nil) zyx836e
theorem zyx837e : zrunw zprog2 (zovW []) 100000 zcut0 4 480 kX8_oneOf (zkinL zyx837q) 0 (zargs 0 zyx837a, [], (zyh1028.1, zyh1028.2.1, 0), 0, 0) = true := zall_ok zyg16_ok (k := 73) (a := zbzyx837e) rfl
theorem zyx837 {l : Launch} {D : va_G} {tys : List (ClassId × FieldType)} {o : zO} {z : Nat} (E : zEnv tys) : zKnW l D vwCl tys o z (zXX o z) zTs zprog2 zyx837d :=
  zkn_ml E (fun g => fun _ h => absurd h List.not_mem_nil) (show zget zprog2 260 = some mX8_oneOf from rfl) rfl (by decide) (by decide) (by decide) (by decide) zyx837e
theorem zyx838c : zchkX [] zprog2 (zovW [zyx837d]) 100000 kX8_number [] zyx838p zyx838p = true := zall_ok zyg16_ok (k := 74) (a := zbzyx838c) rfl
theorem zyx838e : zrunw zprog2 (zovW [zyx837d]) 100000 (zcutW [] none ((zyx838r, zyh1029), 5, 600) zyx838p) 5 600 kX8_number (zkin zyx838r zyh1029) 0 (zargs 0 zyx838a, [], (zyh1028.1, zyh1028.2.1, 0), 0, 0) = true := zall_ok zyg16_ok (k := 75) (a := zbzyx838e) rfl
theorem zyx838 {l : Launch} {D : va_G} {tys : List (ClassId × FieldType)} {o : zO} {z : Nat} (E : zEnv tys) : zKnW l D vwCl tys o z (zXX o z) zTs zprog2 zyx838d :=
  zkn_mk E (fun g => List.forall_mem_cons.mpr ⟨zyx837 (o := zwith o g) E, fun _ h => absurd h List.not_mem_nil⟩) (show zget zprog2 259 = some mX8_number from rfl) rfl (by decide) (by decide) (by decide) (by decide) (G := zyx838p) (zkn_pt E (fun g => List.forall_mem_cons.mpr ⟨zyx837 (o := zwith o g) E, fun _ h => absurd h List.not_mem_nil⟩) (show zget zprog2 259 = some mX8_number from rfl) (fun _ h => absurd h List.not_mem_nil) zyx838c) zyx838e
theorem zyx839e : zrunw zprog2 (zovW [zyx836d, zyx833d, zyx818d, zyx838d, zyx817d]) 100000 (zcutW [] none ((zyx839r, zyh1029), 16, 1980) zyx839p) 16 1980 k2X8_thing (zkin zyx839r zyh1029) 0 (zargs 0 zyx839a, [], (zyh1028.1, zyh1028.2.1, 0), 0, 0) = true := zall_ok zyg16_ok (k := 76) (a := zbzyx839e) rfl
theorem zyx839 {l : Launch} {D : va_G} {tys : List (ClassId × FieldType)} {o : zO} {z : Nat} (E : zEnv tys) : zKnW l D vwCl tys o z (zXX o z) zTs zprog2 zyx839d :=
  zkn_mk E (fun g => List.forall_mem_cons.mpr ⟨zyx836 (o := zwith o g) E, List.forall_mem_cons.mpr ⟨zyx833 (o := zwith o g) E, List.forall_mem_cons.mpr ⟨zyx818 (o := zwith o g) E, List.forall_mem_cons.mpr ⟨zyx838 (o := zwith o g) E, List.forall_mem_cons.mpr ⟨zyx817 (o := zwith o g) E, fun _ h => absurd h List.not_mem_nil⟩⟩⟩⟩⟩) (show zget zprog2 292 = some m2X8_thing from rfl) rfl (by decide) (by decide) (by decide) (by decide) (G := zyx839p) (fun _ h => absurd h List.not_mem_nil) zyx839e
theorem zyx840c : zchkX [(94, 15)] zprog2 (zovW [zyx833d, zyx839d]) 100000 k2X8_product [zyx834q, zyx828q, zyx822q] [zyx840q] [zyx840q] = true := zall_ok zyg16_ok (k := 77) (a := zbzyx840c) rfl
theorem zyx840k {l : Launch} {D : va_G} {tys : List (ClassId × FieldType)} {o : zO} {z : Nat} (E : zEnv tys) : zPtOk l D vwCl tys o z (zXX o z) zTs m2X8_product zyx840q := zkn_pt E (fun g => List.forall_mem_cons.mpr ⟨zyx833 (o := zwith o g) E, List.forall_mem_cons.mpr ⟨zyx839 (o := zwith o g) E, fun _ h => absurd h List.not_mem_nil⟩⟩) (show zget zprog2 265 = some m2X8_product from rfl) (List.forall_mem_cons.mpr ⟨zyx834k E, List.forall_mem_cons.mpr ⟨zyx828k E, List.forall_mem_cons.mpr ⟨zyx822k E, fun _ h => absurd h List.not_mem_nil⟩⟩⟩) zyx840c _ List.mem_cons_self
theorem zyx840e : zrunw zprog2 (zovW [zyx833d, zyx839d]) 100000 (zcutW [(94, 15)] none ((zyx840r, zyh1029), 17, 2100) [zyx840q, zyx834q, zyx828q, zyx822q]) 17 2100 k2X8_product (zkin zyx840r zyh1029) 0 (zargs 0 zyx840a, [], (zyh1028.1, zyh1028.2.1, 0), 0, 0) = true := zall_ok zyg16_ok (k := 78) (a := zbzyx840e) rfl
theorem zyx840 {l : Launch} {D : va_G} {tys : List (ClassId × FieldType)} {o : zO} {z : Nat} (E : zEnv tys) : zKnW l D vwCl tys o z (zXX o z) zTs zprog2 zyx840d :=
  zkn_mk E (fun g => List.forall_mem_cons.mpr ⟨zyx833 (o := zwith o g) E, List.forall_mem_cons.mpr ⟨zyx839 (o := zwith o g) E, fun _ h => absurd h List.not_mem_nil⟩⟩) (show zget zprog2 265 = some m2X8_product from rfl) rfl (by decide) (by decide) (by decide) (by decide) (G := [zyx840q, zyx834q, zyx828q, zyx822q]) (List.forall_mem_cons.mpr ⟨zyx840k E, List.forall_mem_cons.mpr ⟨zyx834k E, List.forall_mem_cons.mpr ⟨zyx828k E, List.forall_mem_cons.mpr ⟨zyx822k E, fun _ h => absurd h List.not_mem_nil⟩⟩⟩⟩) zyx840e
theorem zyx841c : zchkX [(94, 15)] zprog2 (zovW [zyx834d, zyx840d]) 100000 kX8_sum [zyx835q, zyx829q, zyx823q] [zyx841q] [zyx841q] = true := zall_ok zyg16_ok (k := 79) (a := zbzyx841c) rfl
theorem zyx841k {l : Launch} {D : va_G} {tys : List (ClassId × FieldType)} {o : zO} {z : Nat} (E : zEnv tys) : zPtOk l D vwCl tys o z (zXX o z) zTs mX8_sum zyx841q := zkn_pt E (fun g => List.forall_mem_cons.mpr ⟨zyx834 (o := zwith o g) E, List.forall_mem_cons.mpr ⟨zyx840 (o := zwith o g) E, fun _ h => absurd h List.not_mem_nil⟩⟩) (show zget zprog2 284 = some mX8_sum from rfl) (List.forall_mem_cons.mpr ⟨zyx835k E, List.forall_mem_cons.mpr ⟨zyx829k E, List.forall_mem_cons.mpr ⟨zyx823k E, fun _ h => absurd h List.not_mem_nil⟩⟩⟩) zyx841c _ List.mem_cons_self
theorem zyx841e : zrunw zprog2 (zovW [zyx834d, zyx840d]) 100000 (zcutW [(94, 15)] none ((zyx841r, zyh1029), 18, 2220) [zyx841q, zyx835q, zyx829q, zyx823q]) 18 2220 kX8_sum (zkin zyx841r zyh1029) 0 (zargs 0 zyx841a, [], (zyh1028.1, zyh1028.2.1, 0), 0, 0) = true := zall_ok zyg16_ok (k := 80) (a := zbzyx841e) rfl
theorem zyx841 {l : Launch} {D : va_G} {tys : List (ClassId × FieldType)} {o : zO} {z : Nat} (E : zEnv tys) : zKnW l D vwCl tys o z (zXX o z) zTs zprog2 zyx841d :=
  zkn_mk E (fun g => List.forall_mem_cons.mpr ⟨zyx834 (o := zwith o g) E, List.forall_mem_cons.mpr ⟨zyx840 (o := zwith o g) E, fun _ h => absurd h List.not_mem_nil⟩⟩) (show zget zprog2 284 = some mX8_sum from rfl) rfl (by decide) (by decide) (by decide) (by decide) (G := [zyx841q, zyx835q, zyx829q, zyx823q]) (List.forall_mem_cons.mpr ⟨zyx841k E, List.forall_mem_cons.mpr ⟨zyx835k E, List.forall_mem_cons.mpr ⟨zyx829k E, List.forall_mem_cons.mpr ⟨zyx823k E, fun _ h => absurd h List.not_mem_nil⟩⟩⟩⟩) zyx841e
theorem zyx842e : zrunw zprog2 (zovW [zyx835d, zyx841d, zyx817d]) 100000 (zcutW [] none ((zyx842r, zyh1029), 19, 2340) zyx842p) 19 2340 kX8_heldBy (zkin zyx842r zyh1029) 0 (zargs 0 zyx842a, [], (zyh1028.1, zyh1028.2.1, 0), 0, 0) = true := zall_ok zyg16_ok (k := 81) (a := zbzyx842e) rfl
theorem zyx842 {l : Launch} {D : va_G} {tys : List (ClassId × FieldType)} {o : zO} {z : Nat} (E : zEnv tys) : zKnW l D vwCl tys o z (zXX o z) zTs zprog2 zyx842d :=
  zkn_mk E (fun g => List.forall_mem_cons.mpr ⟨zyx835 (o := zwith o g) E, List.forall_mem_cons.mpr ⟨zyx841 (o := zwith o g) E, List.forall_mem_cons.mpr ⟨zyx817 (o := zwith o g) E, fun _ h => absurd h List.not_mem_nil⟩⟩⟩) (show zget zprog2 229 = some mX8_heldBy from rfl) rfl (by decide) (by decide) (by decide) (by decide) (G := zyx842p) (fun _ h => absurd h List.not_mem_nil) zyx842e
theorem zyx843e : zrunw zprog2 (zovW []) 100000 zcut0 4 480 kX8_oneOf (zkinL zyx843q) 0 (zargs 0 zyx843a, [], (zyh1025.1, zyh1025.2.1, 0), 0, 0) = true := zall_ok zyg16_ok (k := 82) (a := zbzyx843e) rfl
theorem zyx843 {l : Launch} {D : va_G} {tys : List (ClassId × FieldType)} {o : zO} {z : Nat} (E : zEnv tys) : zKnW l D vwCl tys o z (zXX o z) zTs zprog2 zyx843d :=
  zkn_ml E (fun g => fun _ h => absurd h List.not_mem_nil) (show zget zprog2 260 = some mX8_oneOf from rfl) rfl (by decide) (by decide) (by decide) (by decide) zyx843e
theorem zyx844c : zchkX [] zprog2 (zovW [zyx843d]) 100000 kX8_number [] zyx844p zyx844p = true := zall_ok zyg16_ok (k := 83) (a := zbzyx844c) rfl
theorem zyx844e : zrunw zprog2 (zovW [zyx843d]) 100000 (zcutW [] none ((zyx844r, zyh1026), 5, 600) zyx844p) 5 600 kX8_number (zkin zyx844r zyh1026) 0 (zargs 0 zyx844a, [], (zyh1025.1, zyh1025.2.1, 0), 0, 0) = true := zall_ok zyg16_ok (k := 84) (a := zbzyx844e) rfl
theorem zyx844 {l : Launch} {D : va_G} {tys : List (ClassId × FieldType)} {o : zO} {z : Nat} (E : zEnv tys) : zKnW l D vwCl tys o z (zXX o z) zTs zprog2 zyx844d :=
  zkn_mk E (fun g => List.forall_mem_cons.mpr ⟨zyx843 (o := zwith o g) E, fun _ h => absurd h List.not_mem_nil⟩) (show zget zprog2 259 = some mX8_number from rfl) rfl (by decide) (by decide) (by decide) (by decide) (G := zyx844p) (zkn_pt E (fun g => List.forall_mem_cons.mpr ⟨zyx843 (o := zwith o g) E, fun _ h => absurd h List.not_mem_nil⟩) (show zget zprog2 259 = some mX8_number from rfl) (fun _ h => absurd h List.not_mem_nil) zyx844c) zyx844e
theorem zyx845e : zrunw zprog2 (zovW [zyx842d, zyx839d, zyx817d, zyx844d, zyx816d]) 100000 (zcutW [] none ((zyx845r, zyh1026), 20, 2460) zyx845p) 20 2460 k2X8_thing (zkin zyx845r zyh1026) 0 (zargs 0 zyx845a, [], (zyh1025.1, zyh1025.2.1, 0), 0, 0) = true := zall_ok zyg16_ok (k := 85) (a := zbzyx845e) rfl
theorem zyx845 {l : Launch} {D : va_G} {tys : List (ClassId × FieldType)} {o : zO} {z : Nat} (E : zEnv tys) : zKnW l D vwCl tys o z (zXX o z) zTs zprog2 zyx845d :=
  zkn_mk E (fun g => List.forall_mem_cons.mpr ⟨zyx842 (o := zwith o g) E, List.forall_mem_cons.mpr ⟨zyx839 (o := zwith o g) E, List.forall_mem_cons.mpr ⟨zyx817 (o := zwith o g) E, List.forall_mem_cons.mpr ⟨zyx844 (o := zwith o g) E, List.forall_mem_cons.mpr ⟨zyx816 (o := zwith o g) E, fun _ h => absurd h List.not_mem_nil⟩⟩⟩⟩⟩) (show zget zprog2 292 = some m2X8_thing from rfl) rfl (by decide) (by decide) (by decide) (by decide) (G := zyx845p) (fun _ h => absurd h List.not_mem_nil) zyx845e
theorem zyx846c : zchkX [(94, 15)] zprog2 (zovW [zyx839d, zyx845d]) 100000 k2X8_product [zyx840q, zyx834q, zyx828q, zyx822q] [zyx846q] [zyx846q] = true := zall_ok zyg16_ok (k := 86) (a := zbzyx846c) rfl
theorem zyx846k {l : Launch} {D : va_G} {tys : List (ClassId × FieldType)} {o : zO} {z : Nat} (E : zEnv tys) : zPtOk l D vwCl tys o z (zXX o z) zTs m2X8_product zyx846q := zkn_pt E (fun g => List.forall_mem_cons.mpr ⟨zyx839 (o := zwith o g) E, List.forall_mem_cons.mpr ⟨zyx845 (o := zwith o g) E, fun _ h => absurd h List.not_mem_nil⟩⟩) (show zget zprog2 265 = some m2X8_product from rfl) (List.forall_mem_cons.mpr ⟨zyx840k E, List.forall_mem_cons.mpr ⟨zyx834k E, List.forall_mem_cons.mpr ⟨zyx828k E, List.forall_mem_cons.mpr ⟨zyx822k E, fun _ h => absurd h List.not_mem_nil⟩⟩⟩⟩) zyx846c _ List.mem_cons_self
theorem zyx846e : zrunw zprog2 (zovW [zyx839d, zyx845d]) 100000 (zcutW [(94, 15)] none ((zyx846r, zyh1026), 21, 2580) [zyx846q, zyx840q, zyx834q, zyx828q, zyx822q]) 21 2580 k2X8_product (zkin zyx846r zyh1026) 0 (zargs 0 zyx846a, [], (zyh1025.1, zyh1025.2.1, 0), 0, 0) = true := zall_ok zyg16_ok (k := 87) (a := zbzyx846e) rfl
theorem zyx846 {l : Launch} {D : va_G} {tys : List (ClassId × FieldType)} {o : zO} {z : Nat} (E : zEnv tys) : zKnW l D vwCl tys o z (zXX o z) zTs zprog2 zyx846d :=
  zkn_mk E (fun g => List.forall_mem_cons.mpr ⟨zyx839 (o := zwith o g) E, List.forall_mem_cons.mpr ⟨zyx845 (o := zwith o g) E, fun _ h => absurd h List.not_mem_nil⟩⟩) (show zget zprog2 265 = some m2X8_product from rfl) rfl (by decide) (by decide) (by decide) (by decide) (G := [zyx846q, zyx840q, zyx834q, zyx828q, zyx822q]) (List.forall_mem_cons.mpr ⟨zyx846k E, List.forall_mem_cons.mpr ⟨zyx840k E, List.forall_mem_cons.mpr ⟨zyx834k E, List.forall_mem_cons.mpr ⟨zyx828k E, List.forall_mem_cons.mpr ⟨zyx822k E, fun _ h => absurd h List.not_mem_nil⟩⟩⟩⟩⟩) zyx846e
theorem zyx847c : zchkX [(94, 15)] zprog2 (zovW [zyx840d, zyx846d]) 100000 kX8_sum [zyx841q, zyx835q, zyx829q, zyx823q] [zyx847q] [zyx847q] = true := zall_ok zyg16_ok (k := 88) (a := zbzyx847c) rfl
theorem zyx847k {l : Launch} {D : va_G} {tys : List (ClassId × FieldType)} {o : zO} {z : Nat} (E : zEnv tys) : zPtOk l D vwCl tys o z (zXX o z) zTs mX8_sum zyx847q := zkn_pt E (fun g => List.forall_mem_cons.mpr ⟨zyx840 (o := zwith o g) E, List.forall_mem_cons.mpr ⟨zyx846 (o := zwith o g) E, fun _ h => absurd h List.not_mem_nil⟩⟩) (show zget zprog2 284 = some mX8_sum from rfl) (List.forall_mem_cons.mpr ⟨zyx841k E, List.forall_mem_cons.mpr ⟨zyx835k E, List.forall_mem_cons.mpr ⟨zyx829k E, List.forall_mem_cons.mpr ⟨zyx823k E, fun _ h => absurd h List.not_mem_nil⟩⟩⟩⟩) zyx847c _ List.mem_cons_self
theorem zyx847e : zrunw zprog2 (zovW [zyx840d, zyx846d]) 100000 (zcutW [(94, 15)] none ((zyx847r, zyh1026), 22, 2700) [zyx847q, zyx841q, zyx835q, zyx829q, zyx823q]) 22 2700 kX8_sum (zkin zyx847r zyh1026) 0 (zargs 0 zyx847a, [], (zyh1025.1, zyh1025.2.1, 0), 0, 0) = true := zall_ok zyg16_ok (k := 89) (a := zbzyx847e) rfl
theorem zyx847 {l : Launch} {D : va_G} {tys : List (ClassId × FieldType)} {o : zO} {z : Nat} (E : zEnv tys) : zKnW l D vwCl tys o z (zXX o z) zTs zprog2 zyx847d :=
  zkn_mk E (fun g => List.forall_mem_cons.mpr ⟨zyx840 (o := zwith o g) E, List.forall_mem_cons.mpr ⟨zyx846 (o := zwith o g) E, fun _ h => absurd h List.not_mem_nil⟩⟩) (show zget zprog2 284 = some mX8_sum from rfl) rfl (by decide) (by decide) (by decide) (by decide) (G := [zyx847q, zyx841q, zyx835q, zyx829q, zyx823q]) (List.forall_mem_cons.mpr ⟨zyx847k E, List.forall_mem_cons.mpr ⟨zyx841k E, List.forall_mem_cons.mpr ⟨zyx835k E, List.forall_mem_cons.mpr ⟨zyx829k E, List.forall_mem_cons.mpr ⟨zyx823k E, fun _ h => absurd h List.not_mem_nil⟩⟩⟩⟩⟩) zyx847e
theorem zyx848e : zrunw zprog2 (zovW [zyx841d, zyx847d, zyx816d]) 100000 (zcutW [] none ((zyx848r, zyh1026), 23, 2820) zyx848p) 23 2820 kX8_heldBy (zkin zyx848r zyh1026) 0 (zargs 0 zyx848a, [], (zyh1025.1, zyh1025.2.1, 0), 0, 0) = true := zall_ok zyg16_ok (k := 90) (a := zbzyx848e) rfl
theorem zyx848 {l : Launch} {D : va_G} {tys : List (ClassId × FieldType)} {o : zO} {z : Nat} (E : zEnv tys) : zKnW l D vwCl tys o z (zXX o z) zTs zprog2 zyx848d :=
  zkn_mk E (fun g => List.forall_mem_cons.mpr ⟨zyx841 (o := zwith o g) E, List.forall_mem_cons.mpr ⟨zyx847 (o := zwith o g) E, List.forall_mem_cons.mpr ⟨zyx816 (o := zwith o g) E, fun _ h => absurd h List.not_mem_nil⟩⟩⟩) (show zget zprog2 229 = some mX8_heldBy from rfl) rfl (by decide) (by decide) (by decide) (by decide) (G := zyx848p) (fun _ h => absurd h List.not_mem_nil) zyx848e
theorem zyx849e : zrunw zprog2 (zovW []) 100000 zcut0 4 480 kX8_oneOf (zkinL zyx849q) 0 (zargs 0 zyx849a, [], (zyh1022.1, zyh1022.2.1, 0), 0, 0) = true := zall_ok zyg16_ok (k := 91) (a := zbzyx849e) rfl
theorem zyx849 {l : Launch} {D : va_G} {tys : List (ClassId × FieldType)} {o : zO} {z : Nat} (E : zEnv tys) : zKnW l D vwCl tys o z (zXX o z) zTs zprog2 zyx849d :=
  zkn_ml E (fun g => fun _ h => absurd h List.not_mem_nil) (show zget zprog2 260 = some mX8_oneOf from rfl) rfl (by decide) (by decide) (by decide) (by decide) zyx849e
theorem zyx850c : zchkX [] zprog2 (zovW [zyx849d]) 100000 kX8_number [] zyx850p zyx850p = true := zall_ok zyg16_ok (k := 92) (a := zbzyx850c) rfl
theorem zyx850e : zrunw zprog2 (zovW [zyx849d]) 100000 (zcutW [] none ((zyx850r, zyh1023), 5, 600) zyx850p) 5 600 kX8_number (zkin zyx850r zyh1023) 0 (zargs 0 zyx850a, [], (zyh1022.1, zyh1022.2.1, 0), 0, 0) = true := zall_ok zyg16_ok (k := 93) (a := zbzyx850e) rfl
theorem zyx850 {l : Launch} {D : va_G} {tys : List (ClassId × FieldType)} {o : zO} {z : Nat} (E : zEnv tys) : zKnW l D vwCl tys o z (zXX o z) zTs zprog2 zyx850d :=
  zkn_mk E (fun g => List.forall_mem_cons.mpr ⟨zyx849 (o := zwith o g) E, fun _ h => absurd h List.not_mem_nil⟩) (show zget zprog2 259 = some mX8_number from rfl) rfl (by decide) (by decide) (by decide) (by decide) (G := zyx850p) (zkn_pt E (fun g => List.forall_mem_cons.mpr ⟨zyx849 (o := zwith o g) E, fun _ h => absurd h List.not_mem_nil⟩) (show zget zprog2 259 = some mX8_number from rfl) (fun _ h => absurd h List.not_mem_nil) zyx850c) zyx850e
theorem zyx851e : zrunw zprog2 (zovW [zyx848d, zyx845d, zyx816d, zyx850d, zyx815d]) 100000 (zcutW [] none ((zyx851r, zyh1023), 24, 2940) zyx851p) 24 2940 k2X8_thing (zkin zyx851r zyh1023) 0 (zargs 0 zyx851a, [], (zyh1022.1, zyh1022.2.1, 0), 0, 0) = true := zall_ok zyg16_ok (k := 94) (a := zbzyx851e) rfl
theorem zyx851 {l : Launch} {D : va_G} {tys : List (ClassId × FieldType)} {o : zO} {z : Nat} (E : zEnv tys) : zKnW l D vwCl tys o z (zXX o z) zTs zprog2 zyx851d :=
  zkn_mk E (fun g => List.forall_mem_cons.mpr ⟨zyx848 (o := zwith o g) E, List.forall_mem_cons.mpr ⟨zyx845 (o := zwith o g) E, List.forall_mem_cons.mpr ⟨zyx816 (o := zwith o g) E, List.forall_mem_cons.mpr ⟨zyx850 (o := zwith o g) E, List.forall_mem_cons.mpr ⟨zyx815 (o := zwith o g) E, fun _ h => absurd h List.not_mem_nil⟩⟩⟩⟩⟩) (show zget zprog2 292 = some m2X8_thing from rfl) rfl (by decide) (by decide) (by decide) (by decide) (G := zyx851p) (fun _ h => absurd h List.not_mem_nil) zyx851e
theorem zyx852c : zchkX [(94, 15)] zprog2 (zovW [zyx845d, zyx851d]) 100000 k2X8_product [zyx846q, zyx840q, zyx834q, zyx828q, zyx822q] [zyx852q] [zyx852q] = true := zall_ok zyg16_ok (k := 95) (a := zbzyx852c) rfl
theorem zyx852k {l : Launch} {D : va_G} {tys : List (ClassId × FieldType)} {o : zO} {z : Nat} (E : zEnv tys) : zPtOk l D vwCl tys o z (zXX o z) zTs m2X8_product zyx852q := zkn_pt E (fun g => List.forall_mem_cons.mpr ⟨zyx845 (o := zwith o g) E, List.forall_mem_cons.mpr ⟨zyx851 (o := zwith o g) E, fun _ h => absurd h List.not_mem_nil⟩⟩) (show zget zprog2 265 = some m2X8_product from rfl) (List.forall_mem_cons.mpr ⟨zyx846k E, List.forall_mem_cons.mpr ⟨zyx840k E, List.forall_mem_cons.mpr ⟨zyx834k E, List.forall_mem_cons.mpr ⟨zyx828k E, List.forall_mem_cons.mpr ⟨zyx822k E, fun _ h => absurd h List.not_mem_nil⟩⟩⟩⟩⟩) zyx852c _ List.mem_cons_self
theorem zyx852e : zrunw zprog2 (zovW [zyx845d, zyx851d]) 100000 (zcutW [(94, 15)] none ((zyx852r, zyh1023), 25, 3060) [zyx852q, zyx846q, zyx840q, zyx834q, zyx828q, zyx822q]) 25 3060 k2X8_product (zkin zyx852r zyh1023) 0 (zargs 0 zyx852a, [], (zyh1022.1, zyh1022.2.1, 0), 0, 0) = true := zall_ok zyg16_ok (k := 96) (a := zbzyx852e) rfl
theorem zyx852 {l : Launch} {D : va_G} {tys : List (ClassId × FieldType)} {o : zO} {z : Nat} (E : zEnv tys) : zKnW l D vwCl tys o z (zXX o z) zTs zprog2 zyx852d :=
  zkn_mk E (fun g => List.forall_mem_cons.mpr ⟨zyx845 (o := zwith o g) E, List.forall_mem_cons.mpr ⟨zyx851 (o := zwith o g) E, fun _ h => absurd h List.not_mem_nil⟩⟩) (show zget zprog2 265 = some m2X8_product from rfl) rfl (by decide) (by decide) (by decide) (by decide) (G := [zyx852q, zyx846q, zyx840q, zyx834q, zyx828q, zyx822q]) (List.forall_mem_cons.mpr ⟨zyx852k E, List.forall_mem_cons.mpr ⟨zyx846k E, List.forall_mem_cons.mpr ⟨zyx840k E, List.forall_mem_cons.mpr ⟨zyx834k E, List.forall_mem_cons.mpr ⟨zyx828k E, List.forall_mem_cons.mpr ⟨zyx822k E, fun _ h => absurd h List.not_mem_nil⟩⟩⟩⟩⟩⟩) zyx852e
theorem zyx853c : zchkX [(94, 15)] zprog2 (zovW [zyx846d, zyx852d]) 100000 kX8_sum [zyx847q, zyx841q, zyx835q, zyx829q, zyx823q] [zyx853q] [zyx853q] = true := zall_ok zyg16_ok (k := 97) (a := zbzyx853c) rfl
theorem zyx853k {l : Launch} {D : va_G} {tys : List (ClassId × FieldType)} {o : zO} {z : Nat} (E : zEnv tys) : zPtOk l D vwCl tys o z (zXX o z) zTs mX8_sum zyx853q := zkn_pt E (fun g => List.forall_mem_cons.mpr ⟨zyx846 (o := zwith o g) E, List.forall_mem_cons.mpr ⟨zyx852 (o := zwith o g) E, fun _ h => absurd h List.not_mem_nil⟩⟩) (show zget zprog2 284 = some mX8_sum from rfl) (List.forall_mem_cons.mpr ⟨zyx847k E, List.forall_mem_cons.mpr ⟨zyx841k E, List.forall_mem_cons.mpr ⟨zyx835k E, List.forall_mem_cons.mpr ⟨zyx829k E, List.forall_mem_cons.mpr ⟨zyx823k E, fun _ h => absurd h List.not_mem_nil⟩⟩⟩⟩⟩) zyx853c _ List.mem_cons_self
theorem zyx853e : zrunw zprog2 (zovW [zyx846d, zyx852d]) 100000 (zcutW [(94, 15)] none ((zyx853r, zyh1023), 26, 3180) [zyx853q, zyx847q, zyx841q, zyx835q, zyx829q, zyx823q]) 26 3180 kX8_sum (zkin zyx853r zyh1023) 0 (zargs 0 zyx853a, [], (zyh1022.1, zyh1022.2.1, 0), 0, 0) = true := zall_ok zyg16_ok (k := 98) (a := zbzyx853e) rfl
theorem zyx853 {l : Launch} {D : va_G} {tys : List (ClassId × FieldType)} {o : zO} {z : Nat} (E : zEnv tys) : zKnW l D vwCl tys o z (zXX o z) zTs zprog2 zyx853d :=
  zkn_mk E (fun g => List.forall_mem_cons.mpr ⟨zyx846 (o := zwith o g) E, List.forall_mem_cons.mpr ⟨zyx852 (o := zwith o g) E, fun _ h => absurd h List.not_mem_nil⟩⟩) (show zget zprog2 284 = some mX8_sum from rfl) rfl (by decide) (by decide) (by decide) (by decide) (G := [zyx853q, zyx847q, zyx841q, zyx835q, zyx829q, zyx823q]) (List.forall_mem_cons.mpr ⟨zyx853k E, List.forall_mem_cons.mpr ⟨zyx847k E, List.forall_mem_cons.mpr ⟨zyx841k E, List.forall_mem_cons.mpr ⟨zyx835k E, List.forall_mem_cons.mpr ⟨zyx829k E, List.forall_mem_cons.mpr ⟨zyx823k E, fun _ h => absurd h List.not_mem_nil⟩⟩⟩⟩⟩⟩) zyx853e
theorem zyx854e : zrunw zprog2 (zovW [zyx847d, zyx853d, zyx815d]) 100000 (zcutW [] none ((zyx854r, zyh1023), 27, 3300) zyx854p) 27 3300 kX8_heldBy (zkin zyx854r zyh1023) 0 (zargs 0 zyx854a, [], (zyh1022.1, zyh1022.2.1, 0), 0, 0) = true := zall_ok zyg16_ok (k := 99) (a := zbzyx854e) rfl
theorem zyx854 {l : Launch} {D : va_G} {tys : List (ClassId × FieldType)} {o : zO} {z : Nat} (E : zEnv tys) : zKnW l D vwCl tys o z (zXX o z) zTs zprog2 zyx854d :=
  zkn_mk E (fun g => List.forall_mem_cons.mpr ⟨zyx847 (o := zwith o g) E, List.forall_mem_cons.mpr ⟨zyx853 (o := zwith o g) E, List.forall_mem_cons.mpr ⟨zyx815 (o := zwith o g) E, fun _ h => absurd h List.not_mem_nil⟩⟩⟩) (show zget zprog2 229 = some mX8_heldBy from rfl) rfl (by decide) (by decide) (by decide) (by decide) (G := zyx854p) (fun _ h => absurd h List.not_mem_nil) zyx854e
theorem zyx855e : zrunw zprog2 (zovW []) 100000 zcut0 4 480 kX8_oneOf (zkinL zyx855q) 0 (zargs 0 zyx855a, [], (zyh1019.1, zyh1019.2.1, 0), 0, 0) = true := zall_ok zyg16_ok (k := 100) (a := zbzyx855e) rfl
theorem zyx855 {l : Launch} {D : va_G} {tys : List (ClassId × FieldType)} {o : zO} {z : Nat} (E : zEnv tys) : zKnW l D vwCl tys o z (zXX o z) zTs zprog2 zyx855d :=
  zkn_ml E (fun g => fun _ h => absurd h List.not_mem_nil) (show zget zprog2 260 = some mX8_oneOf from rfl) rfl (by decide) (by decide) (by decide) (by decide) zyx855e
theorem zyx856c : zchkX [] zprog2 (zovW [zyx855d]) 100000 kX8_number [] zyx856p zyx856p = true := zall_ok zyg16_ok (k := 101) (a := zbzyx856c) rfl
theorem zyx856e : zrunw zprog2 (zovW [zyx855d]) 100000 (zcutW [] none ((zyx856r, zyh1020), 5, 600) zyx856p) 5 600 kX8_number (zkin zyx856r zyh1020) 0 (zargs 0 zyx856a, [], (zyh1019.1, zyh1019.2.1, 0), 0, 0) = true := zall_ok zyg16_ok (k := 102) (a := zbzyx856e) rfl
theorem zyx856 {l : Launch} {D : va_G} {tys : List (ClassId × FieldType)} {o : zO} {z : Nat} (E : zEnv tys) : zKnW l D vwCl tys o z (zXX o z) zTs zprog2 zyx856d :=
  zkn_mk E (fun g => List.forall_mem_cons.mpr ⟨zyx855 (o := zwith o g) E, fun _ h => absurd h List.not_mem_nil⟩) (show zget zprog2 259 = some mX8_number from rfl) rfl (by decide) (by decide) (by decide) (by decide) (G := zyx856p) (zkn_pt E (fun g => List.forall_mem_cons.mpr ⟨zyx855 (o := zwith o g) E, fun _ h => absurd h List.not_mem_nil⟩) (show zget zprog2 259 = some mX8_number from rfl) (fun _ h => absurd h List.not_mem_nil) zyx856c) zyx856e
theorem zyx857e : zrunw zprog2 (zovW [zyx854d, zyx851d, zyx815d, zyx856d, zyx814d]) 100000 (zcutW [] none ((zyx857r, zyh1020), 28, 3420) zyx857p) 28 3420 k2X8_thing (zkin zyx857r zyh1020) 0 (zargs 0 zyx857a, [], (zyh1019.1, zyh1019.2.1, 0), 0, 0) = true := zall_ok zyg16_ok (k := 103) (a := zbzyx857e) rfl
theorem zyx857 {l : Launch} {D : va_G} {tys : List (ClassId × FieldType)} {o : zO} {z : Nat} (E : zEnv tys) : zKnW l D vwCl tys o z (zXX o z) zTs zprog2 zyx857d :=
  zkn_mk E (fun g => List.forall_mem_cons.mpr ⟨zyx854 (o := zwith o g) E, List.forall_mem_cons.mpr ⟨zyx851 (o := zwith o g) E, List.forall_mem_cons.mpr ⟨zyx815 (o := zwith o g) E, List.forall_mem_cons.mpr ⟨zyx856 (o := zwith o g) E, List.forall_mem_cons.mpr ⟨zyx814 (o := zwith o g) E, fun _ h => absurd h List.not_mem_nil⟩⟩⟩⟩⟩) (show zget zprog2 292 = some m2X8_thing from rfl) rfl (by decide) (by decide) (by decide) (by decide) (G := zyx857p) (fun _ h => absurd h List.not_mem_nil) zyx857e
theorem zyx858c : zchkX [(94, 15)] zprog2 (zovW [zyx851d, zyx857d]) 100000 k2X8_product [zyx852q, zyx846q, zyx840q, zyx834q, zyx828q, zyx822q] [zyx858q] [zyx858q] = true := zall_ok zyg16_ok (k := 104) (a := zbzyx858c) rfl
theorem zyx858k {l : Launch} {D : va_G} {tys : List (ClassId × FieldType)} {o : zO} {z : Nat} (E : zEnv tys) : zPtOk l D vwCl tys o z (zXX o z) zTs m2X8_product zyx858q := zkn_pt E (fun g => List.forall_mem_cons.mpr ⟨zyx851 (o := zwith o g) E, List.forall_mem_cons.mpr ⟨zyx857 (o := zwith o g) E, fun _ h => absurd h List.not_mem_nil⟩⟩) (show zget zprog2 265 = some m2X8_product from rfl) (List.forall_mem_cons.mpr ⟨zyx852k E, List.forall_mem_cons.mpr ⟨zyx846k E, List.forall_mem_cons.mpr ⟨zyx840k E, List.forall_mem_cons.mpr ⟨zyx834k E, List.forall_mem_cons.mpr ⟨zyx828k E, List.forall_mem_cons.mpr ⟨zyx822k E, fun _ h => absurd h List.not_mem_nil⟩⟩⟩⟩⟩⟩) zyx858c _ List.mem_cons_self
theorem zyx858e : zrunw zprog2 (zovW [zyx851d, zyx857d]) 100000 (zcutW [(94, 15)] none ((zyx858r, zyh1020), 29, 3540) [zyx858q, zyx852q, zyx846q, zyx840q, zyx834q, zyx828q, zyx822q]) 29 3540 k2X8_product (zkin zyx858r zyh1020) 0 (zargs 0 zyx858a, [], (zyh1019.1, zyh1019.2.1, 0), 0, 0) = true := zall_ok zyg16_ok (k := 105) (a := zbzyx858e) rfl
theorem zyx858 {l : Launch} {D : va_G} {tys : List (ClassId × FieldType)} {o : zO} {z : Nat} (E : zEnv tys) : zKnW l D vwCl tys o z (zXX o z) zTs zprog2 zyx858d :=
  zkn_mk E (fun g => List.forall_mem_cons.mpr ⟨zyx851 (o := zwith o g) E, List.forall_mem_cons.mpr ⟨zyx857 (o := zwith o g) E, fun _ h => absurd h List.not_mem_nil⟩⟩) (show zget zprog2 265 = some m2X8_product from rfl) rfl (by decide) (by decide) (by decide) (by decide) (G := [zyx858q, zyx852q, zyx846q, zyx840q, zyx834q, zyx828q, zyx822q]) (List.forall_mem_cons.mpr ⟨zyx858k E, List.forall_mem_cons.mpr ⟨zyx852k E, List.forall_mem_cons.mpr ⟨zyx846k E, List.forall_mem_cons.mpr ⟨zyx840k E, List.forall_mem_cons.mpr ⟨zyx834k E, List.forall_mem_cons.mpr ⟨zyx828k E, List.forall_mem_cons.mpr ⟨zyx822k E, fun _ h => absurd h List.not_mem_nil⟩⟩⟩⟩⟩⟩⟩) zyx858e
theorem zyx859c : zchkX [(94, 15)] zprog2 (zovW [zyx852d, zyx858d]) 100000 kX8_sum [zyx853q, zyx847q, zyx841q, zyx835q, zyx829q, zyx823q] [zyx859q] [zyx859q] = true := zall_ok zyg16_ok (k := 106) (a := zbzyx859c) rfl
theorem zyx859k {l : Launch} {D : va_G} {tys : List (ClassId × FieldType)} {o : zO} {z : Nat} (E : zEnv tys) : zPtOk l D vwCl tys o z (zXX o z) zTs mX8_sum zyx859q := zkn_pt E (fun g => List.forall_mem_cons.mpr ⟨zyx852 (o := zwith o g) E, List.forall_mem_cons.mpr ⟨zyx858 (o := zwith o g) E, fun _ h => absurd h List.not_mem_nil⟩⟩) (show zget zprog2 284 = some mX8_sum from rfl) (List.forall_mem_cons.mpr ⟨zyx853k E, List.forall_mem_cons.mpr ⟨zyx847k E, List.forall_mem_cons.mpr ⟨zyx841k E, List.forall_mem_cons.mpr ⟨zyx835k E, List.forall_mem_cons.mpr ⟨zyx829k E, List.forall_mem_cons.mpr ⟨zyx823k E, fun _ h => absurd h List.not_mem_nil⟩⟩⟩⟩⟩⟩) zyx859c _ List.mem_cons_self
theorem zyx859e : zrunw zprog2 (zovW [zyx852d, zyx858d]) 100000 (zcutW [(94, 15)] none ((zyx859r, zyh1020), 30, 3660) [zyx859q, zyx853q, zyx847q, zyx841q, zyx835q, zyx829q, zyx823q]) 30 3660 kX8_sum (zkin zyx859r zyh1020) 0 (zargs 0 zyx859a, [], (zyh1019.1, zyh1019.2.1, 0), 0, 0) = true := zall_ok zyg16_ok (k := 107) (a := zbzyx859e) rfl
theorem zyx859 {l : Launch} {D : va_G} {tys : List (ClassId × FieldType)} {o : zO} {z : Nat} (E : zEnv tys) : zKnW l D vwCl tys o z (zXX o z) zTs zprog2 zyx859d :=
  zkn_mk E (fun g => List.forall_mem_cons.mpr ⟨zyx852 (o := zwith o g) E, List.forall_mem_cons.mpr ⟨zyx858 (o := zwith o g) E, fun _ h => absurd h List.not_mem_nil⟩⟩) (show zget zprog2 284 = some mX8_sum from rfl) rfl (by decide) (by decide) (by decide) (by decide) (G := [zyx859q, zyx853q, zyx847q, zyx841q, zyx835q, zyx829q, zyx823q]) (List.forall_mem_cons.mpr ⟨zyx859k E, List.forall_mem_cons.mpr ⟨zyx853k E, List.forall_mem_cons.mpr ⟨zyx847k E, List.forall_mem_cons.mpr ⟨zyx841k E, List.forall_mem_cons.mpr ⟨zyx835k E, List.forall_mem_cons.mpr ⟨zyx829k E, List.forall_mem_cons.mpr ⟨zyx823k E, fun _ h => absurd h List.not_mem_nil⟩⟩⟩⟩⟩⟩⟩) zyx859e
theorem zyx860e : zrunw zprog2 (zovW [zyx853d, zyx859d, zyx814d]) 100000 (zcutW [] none ((zyx860r, zyh1020), 31, 3780) zyx860p) 31 3780 kX8_heldBy (zkin zyx860r zyh1020) 0 (zargs 0 zyx860a, [], (zyh1019.1, zyh1019.2.1, 0), 0, 0) = true := zall_ok zyg16_ok (k := 108) (a := zbzyx860e) rfl
theorem zyx860 {l : Launch} {D : va_G} {tys : List (ClassId × FieldType)} {o : zO} {z : Nat} (E : zEnv tys) : zKnW l D vwCl tys o z (zXX o z) zTs zprog2 zyx860d :=
  zkn_mk E (fun g => List.forall_mem_cons.mpr ⟨zyx853 (o := zwith o g) E, List.forall_mem_cons.mpr ⟨zyx859 (o := zwith o g) E, List.forall_mem_cons.mpr ⟨zyx814 (o := zwith o g) E, fun _ h => absurd h List.not_mem_nil⟩⟩⟩) (show zget zprog2 229 = some mX8_heldBy from rfl) rfl (by decide) (by decide) (by decide) (by decide) (G := zyx860p) (fun _ h => absurd h List.not_mem_nil) zyx860e
theorem zyx861e : zrunw zprog2 (zovW []) 100000 zcut0 4 480 kX8_oneOf (zkinL zyx861q) 0 (zargs 0 zyx861a, [], (zyh1016.1, zyh1016.2.1, 0), 0, 0) = true := zall_ok zyg16_ok (k := 109) (a := zbzyx861e) rfl
theorem zyx861 {l : Launch} {D : va_G} {tys : List (ClassId × FieldType)} {o : zO} {z : Nat} (E : zEnv tys) : zKnW l D vwCl tys o z (zXX o z) zTs zprog2 zyx861d :=
  zkn_ml E (fun g => fun _ h => absurd h List.not_mem_nil) (show zget zprog2 260 = some mX8_oneOf from rfl) rfl (by decide) (by decide) (by decide) (by decide) zyx861e
theorem zyx862c : zchkX [] zprog2 (zovW [zyx861d]) 100000 kX8_number [] zyx862p zyx862p = true := zall_ok zyg16_ok (k := 110) (a := zbzyx862c) rfl
theorem zyx862e : zrunw zprog2 (zovW [zyx861d]) 100000 (zcutW [] none ((zyx862r, zyh1017), 5, 600) zyx862p) 5 600 kX8_number (zkin zyx862r zyh1017) 0 (zargs 0 zyx862a, [], (zyh1016.1, zyh1016.2.1, 0), 0, 0) = true := zall_ok zyg16_ok (k := 111) (a := zbzyx862e) rfl
theorem zyx862 {l : Launch} {D : va_G} {tys : List (ClassId × FieldType)} {o : zO} {z : Nat} (E : zEnv tys) : zKnW l D vwCl tys o z (zXX o z) zTs zprog2 zyx862d :=
  zkn_mk E (fun g => List.forall_mem_cons.mpr ⟨zyx861 (o := zwith o g) E, fun _ h => absurd h List.not_mem_nil⟩) (show zget zprog2 259 = some mX8_number from rfl) rfl (by decide) (by decide) (by decide) (by decide) (G := zyx862p) (zkn_pt E (fun g => List.forall_mem_cons.mpr ⟨zyx861 (o := zwith o g) E, fun _ h => absurd h List.not_mem_nil⟩) (show zget zprog2 259 = some mX8_number from rfl) (fun _ h => absurd h List.not_mem_nil) zyx862c) zyx862e
theorem zyx863e : zrunw zprog2 (zovW [zyx860d, zyx857d, zyx814d, zyx862d, zyx813d]) 100000 (zcutW [] none ((zyx863r, zyh1017), 32, 3900) zyx863p) 32 3900 k2X8_thing (zkin zyx863r zyh1017) 0 (zargs 0 zyx863a, [], (zyh1016.1, zyh1016.2.1, 0), 0, 0) = true := zall_ok zyg16_ok (k := 112) (a := zbzyx863e) rfl
theorem zyx863 {l : Launch} {D : va_G} {tys : List (ClassId × FieldType)} {o : zO} {z : Nat} (E : zEnv tys) : zKnW l D vwCl tys o z (zXX o z) zTs zprog2 zyx863d :=
  zkn_mk E (fun g => List.forall_mem_cons.mpr ⟨zyx860 (o := zwith o g) E, List.forall_mem_cons.mpr ⟨zyx857 (o := zwith o g) E, List.forall_mem_cons.mpr ⟨zyx814 (o := zwith o g) E, List.forall_mem_cons.mpr ⟨zyx862 (o := zwith o g) E, List.forall_mem_cons.mpr ⟨zyx813 (o := zwith o g) E, fun _ h => absurd h List.not_mem_nil⟩⟩⟩⟩⟩) (show zget zprog2 292 = some m2X8_thing from rfl) rfl (by decide) (by decide) (by decide) (by decide) (G := zyx863p) (fun _ h => absurd h List.not_mem_nil) zyx863e

