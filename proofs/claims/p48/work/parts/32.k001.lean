noncomputable def zyh24 : zH := (126, [zyr0, zyr1, zyr2, zyr3, zyr4, zyr5, zyr6, zyr7], 166380747905596319295701719160345042594972204355080822907348098061555361828782271440593002825838474269424099969718757213384879877696853551629587538537096274983541046598843135536519031128262582823212949686527465628690952494886406547256138609347274880169823483340478147903286902584327721151332754695437983432683541857149505394105172131087370938839251255811479748981568461536344290092373746848879913270175069741963122249267075802253110787148422818468323029595676291518504524909274016304559162864174581206693210394302245468825551130338654063870728175762700879956991080816304118302366733246519451936746565161580978681243225905749613404681377918967357193922821929660997824379400719423240259540715668585246499853371163079921303257168193324667537474580249299545241674718485021795211797830381688439367673484027191795914880782664489476612759249486521830124277484955212677767488104932726959797787015092156585081283942606968865695675291387014777327545175821685711232596952865985665797269625577098304368792277725741314547900860617985509465317462734008145014686745332659734325254663988081119184735395387794729692210189977725389832779568755552315368906221411941985321690596601552919609737216)
noncomputable def zyh25 : zH := (126, [zyr0, zyr1, zyr2, zyr3, zyr4, zyr5, zyr6, zyr7], 166380747905596319295701719160345042594972204355080822907348098061555361828782271440593002825838474269424099969718757213384879877696853551629587538537096274983541046598843135536519031128262582823212949686527465628690952494886406547256138609347274880169823483340478147903286902584327721151332754695437983432683541857149505394105172131087370938839251255811479748981568461536344290092373746848879913270175069741963122249267075802253110787148422818468323029595676291518504524909274016304559162864174581206693210394302245468825551130338654063870728175762700879956991080816304118302366733246519451936746565161580978681243225905749613404681377918967357193922821929660997824379400719423240259540715668585246499853371163079921303257168193324667537474580249299545241674718485021795211797830381688439367673484027191795914880782664489476612759249486521830124277484955212677767487925163413473566196281142893551778806902222800522965771261461841049974899477792348407375914393524154054539616009233745983611222173836959364788890109439323761273861518494393273416509636531239532325284739657956328009308443079369140326231019258886142095399203699329604933117585121215922715574088559583263042043904)
noncomputable def zyh26 : zH := (126, [zyr0, zyr1, zyr2, zyr3, zyr4, zyr5, zyr28, zyr7], 247330401473104534060502521019647190035131349101211839914063056092897225106531867170316401061243044989597671426016139339351365034306751209967546155101893167916606772148699136)
noncomputable def zyc100 : zC := .inr (0, [.inr (.inr (.inl 4)), .inr (.inr (.inl 5)), .inr (.inr (.inl 6)), .inr (.inr (.inl 7)), .inr (.inr (.inl 8)), .inr (.inr (.inl 9)), .inl ((.ofNat 0, .ofNat 8), none), .inl ((.ofNat 1, .ofNat 8), none), .inl ((.ofNat 0, .ofNat 9), none), .inr (.inr (.inl 10)), .inl ((.ofNat 0, .ofNat 0), none), .inl ((.ofNat 0, .ofNat 0), none)])
noncomputable def zyr29 : List zC := [zyc0, zyc1, zyc2, zyc100, zyc4, zyc5, zyc6, zyc7, zyc8, zyc8, zyc9, zyc10, zyc11, zyc10, zyc12, zyc13]
noncomputable def zyh27 : zH := (126, [zyr29, zyr1, zyr2, zyr3, zyr4, zyr5, zyr28, zyr7], 0)
noncomputable def zyh28 : zH := (126, [zyr29, zyr1, zyr2, zyr3, zyr4, zyr5, zyr28, zyr7], 13407807929942597099574024998205846127479365820592393377723561443721764030073546976801874298166903427690031858186486050853753882811946569946433649006084096)
noncomputable def zyh29 : zH := (126, [zyr0, zyr1, zyr2, zyr3, zyr4, zyr5, zyr28, zyr7], 13407807929942597099574024998205846127479365820592393377723561443721764030073546976801874298186186684221139741492989595961847834042213005871827163029700608)
noncomputable def zyh30 : zH := (126, [zyr0, zyr1, zyr2, zyr3, zyr4, zyr5, zyr28, zyr7], 3316158518186977171087283760642741159245673734374104415659261263642429228891133106407117823030153028117003885250377229833457240695250856291308533917593298316317601749168995233489551414138969983180911125415709950344530317719537752670606270213583190198198657831167090371807418966226256886557541583585613197210582965425266290065408)
noncomputable def zyh31 : zH := (126, [zyr0, zyr1, zyr2, zyr3, zyr4, zyr5, zyr6, zyr7], 10177897599385967196342957558113347672364067358112872923899962476983667621200708306165076398486286768962780317948271603047157311142409788533069929647439589797619703400855115709502766424765715064660720338091050660428304245062479409762236020857845555756137214830037035705835877249832228138206128893342263575809392190810789292778770292105993749628805934825959130911161781810304401631176324157077490782014819092273446569875383427712246754375348997486304629678897008890348158571440906281284594216699294674577253843720409991138595804908650667207433132118671744480533129905601294318664884481681998666480426126762740963438066300319506095229767338382793866273678531909327458436313748904546757074169255422269831199371329278429512078261676046725301257822750415091431875176859682178684877502040825191570528810529341176192950710009621822440007387042450005837124252298141523128320615747189375785119923917125898031237356581823941932453181481894745156721208625870094056086012353565955315266683237735424116759834994531414131332087349198484174916222035944365203500153170930182956417174015881552936253388804340440045387776676278324685141277347978656082949611001389219578728411216695540151901125840063597287417961024453032756650421284855643436827186423195314691456150912347334152460475280917600024250553465181575950015959420073330722117904077936182895154235769243026811263909003780360355658517790537226031223894867682732028309868131774295116099544491614615653444809407159176656871480627605380811353008027934161373049184566838238631966996955136)
noncomputable def zyh32 : zH := (126, [zyr18, zyr1, zyr2, zyr3, zyr4, zyr5, zyr6, zyr7], 10177897599385967196342957558113347672364067358112872923899962476983667621200708306165076398486286768962780317948271603047157311142409788533069929647439589797619703400855115709502766424765715064660720338091050660428304245062479409762236020857845555756137214830037035705835877249832228138206128893342263575809392190810789292778770292105993749628805934825959130911161781810304401631176324157077490782014819092273446569875383427712246754375348997486304629678897008890348158571440906281284594216699294674577253843720409991138595804908650667207433132118671744480533129905601294318664884481681998666480426126762740963438066300319506095229767338382793866273678531909327458436313748904546757074169255422269831199371329278429512078261676046725301257822750415091431875176859682178684877502040825191570528810529341176192950710009621822440007387042450005837124252298141523128320615747189375785119923917125898031237356581823941932453181481894745156721208625870094056086012353565955315266683237735424116759834994531414131332087349198484174916222035944365203500153170930182956417174015881552936253388804340440045387776676278324685141277347978656082949631817253608907526576195606464533768759246591406080157259036515304833935491890614241380879186431598491319439295688411582282380780027238406985381851589790693554427169357513922913014875584333833990028241379759322140769444259540282152372827512706961757175340579182576508046623994119230533445162219767975163334889928386561214571264654700044159005512733090594158172784842194194625087888424960)
noncomputable def zyh33 : zH := (126, [zyr0, zyr1, zyr2, zyr3, zyr4, zyr5, zyr6, zyr7], 10177897599385967196342957558113347672364067358112872923899962476983667621200708306165076398486286768962780317948271603047157311142409788533069929647439589797619703400855115709502766424765715064660720338091050660428304245062479409762236020857845555756137214830037035705835877249832228138206128893342263575809392190810789292778770292105993749628805934825959130911161781810304401631176324157077490782014819092273446569875383427712246754375348997486304629678897008890348158571440906281284594216699294674577253843720409991138595804908650667207433132118671744480533129905601294318664884481681998666480426126762740963438066300319506095229767338382793866273678531909327458436313748904546757074169255422269831199371329278429512078261676046725301257822750415091431875176859682178684877502040825191570528810529341176192950710009621822440007387042450005837124252298141523128320615747189375785119923917125898031237356581823941932453181481894745156721208625870094056086012353565955315266683237735424116759834994531414131332087349198484174916222035944365203500153170930182956417174015881552936253388804340440045387776676278324685141277347978656082949631817253608907526576195606464533768759246591406080157259036515304833935491890614241380879186431598491319439295688411582282380780027238406985381851589790693554427169357513922913014875584333833990028241379759322140769444259540282152372827512706961757175340579182576508046623994119230533445162219767975163334889928386561214571264654700044159005512733090594158172784842194194625087888424960)
noncomputable def zyh34 : zH := (126, [zyr0, zyr1, zyr2, zyr3, zyr4, zyr5, zyr6, zyr7], 14461874561526195531480699636169884677472559487674133708158050234391544349550819204014510144644076297980692597685328028727174501872769753265976196114321819175784354165262501406210201966112974340533564346984966328385040166459481576577966617363079545149735419115697990186626076297921991898467225038345817121145245582528277201738272375120611793432414592547498295880679197865991549838484875365710192214099377291044949696053024323027519086338943145699697387776925237248)
noncomputable def zyc101 : zC := .inr (1, [.inr (.inr (.inl 79)), .inl ((.ofNat 2, .ofNat 2), none)])
noncomputable def zyr30 : List zC := [zyc34, zyc4, zyc5, zyc35, zyc36, zyc37, zyc38, zyc39, zyc39, zyc40, zyc41, zyc42, zyc43, zyc41, zyc101, zyc45]
noncomputable def zyh35 : zH := (126, [zyr0, zyr1, zyr2, zyr3, zyr30, zyr5, zyr6, zyr7], 10177897599385967196342957558113347672364067358112872923899962476983667621200708306165076398486286768962780317948271603047157311142409788533069929647439589797619703400855115709502766424765715064660720338091050660428304245062479409762236020857845555756137214830037035705835877249832228138206128893342263575809392190810789292778770292105993749628805768445211225314842486108585241286133729184873135701191911744175385014513554645440806161372523159012035205578927290133134773691563209427732964629160757578302270302673811148003059285877522404624609919168985217014904438953106407912117628343072651391600256303279400485290163013416921767508616005628098428290245848367470308930919643732415669703230416171014019719622347709967975733971583672978452377909480240021689912054610415102882624391253676768752060487499745499901432205484712548423702827879585831255917559087747220882851790196059037131056053188950135330357399590743125628334879115161498637269271879304932475107331110340049565653278556357505149402641071709484470334262969797764751675962495228696618253653317559019876495870758713359611585851329760190745842535001559839663346065550148274394510243327905192386932496335912875662424513080814110765587836743651919025785676625843196262710879067707479319575867686107263617846581034008509984223840772781102199320431415192495042639769681495226333916217232816522188255536348601212849053348497483720515680549597029790750846797165696131975611181549543418382017874019201280179516699390652390857108543793714373631764424183499899810568350990336)
noncomputable def zyh36 : zH := (126, [zyr0, zyr1, zyr2, zyr3, zyr4, zyr5, zyr6, zyr7], 13407807929942597099574024998205846127479365820592393377723561443721764030073546976801874298186186684221139741492989595961847834042213005871827163029700608)
noncomputable def zyh37 : zH := (126, [zyr0, zyr1, zyr2, zyr3, zyr4, zyr5, zyr6, zyr7], 130663298481829608781738534421774961051703338637296233838040451555507426256387329494392227567712076631594525296666639931923342994844556273072983150974117601812015088789207744281877770803724965027413481430923741076862306372469625680119025536931057038516294144761580702731555192814017691421498468433934721664993752172801338473126510465986018395629439311248905679016156635359479325947886920171410020354405339559959655615916492983928180276553842688)
/-! X7_give -/
noncomputable def zyx15a : List zAV := [.inr (.inr (.inl 0)), .inl ((.negSucc 2147483647, .ofNat 2147483647), none), .inl ((.negSucc 2147483647, .ofNat 2147483647), none)]
def zyx15r : Option zAV := some (.inl ((.negSucc 48, .ofNat 207), none))
noncomputable def zyx15p : List zPw := []
noncomputable def zyx15d : zKw := (126, 4, 4, 480, zyx15a, zyh0, [zyx15r], zyh24)
set_option maxRecDepth 100000 in
theorem zyx15e : zrunw zprog2 (zovW []) 100000 (zcutW none ((zyx15r, zyh24), 4, 480) zyx15p) 4 480 k2X7_give (zkin zyx15r zyh24) 0 (zargs 0 zyx15a, [], (zyh0.1, zyh0.2.1, 0), 0, 0) = true := by decide +kernel
theorem zyx15 {l : Launch} {D : va_G} {tys : List (ClassId × FieldType)} {o : zO} {z : Nat} (E : zEnv tys) : zKnW l D vwCl tys o z (zXX o z) zTs zprog2 zyx15d :=
  zkn_mk E (fun g => fun _ h => absurd h List.not_mem_nil) (show zget zprog2 126 = some m2X7_give from rfl) rfl (by decide) (by decide) (by decide) (by decide) (G := zyx15p) (fun _ h => absurd h List.not_mem_nil) zyx15e
/-! X7_ill -/
noncomputable def zyx16a : List zAV := [.inr (.inr (.inl 0)), .inl ((.negSucc 2147483647, .ofNat 2147483647), none)]
def zyx16r : Option zAV := some (.inl ((.negSucc 0, .ofNat 8), none))
noncomputable def zyx16p : List zPw := []
noncomputable def zyx16d : zKw := (133, 2, 4, 480, zyx16a, zyh0, [zyx16r], zyh25)
set_option maxRecDepth 100000 in
theorem zyx16e : zrunw zprog2 (zovW [zyx5d]) 100000 (zcutW none ((zyx16r, zyh25), 4, 480) zyx16p) 4 480 k2X7_ill (zkin zyx16r zyh25) 0 (zargs 0 zyx16a, [], (zyh0.1, zyh0.2.1, 0), 0, 0) = true := by decide +kernel
theorem zyx16 {l : Launch} {D : va_G} {tys : List (ClassId × FieldType)} {o : zO} {z : Nat} (E : zEnv tys) : zKnW l D vwCl tys o z (zXX o z) zTs zprog2 zyx16d :=
  zkn_mk E (fun g => List.forall_mem_cons.mpr ⟨zyx5 (o := zwith o g) E, fun _ h => absurd h List.not_mem_nil⟩) (show zget zprog2 133 = some m2X7_ill from rfl) rfl (by decide) (by decide) (by decide) (by decide) (G := zyx16p) (fun _ h => absurd h List.not_mem_nil) zyx16e
/-! J7_fill_53178 -/
noncomputable def zyx17a : List zAV := [.inr (.inr (.inl 9)), .inl ((.ofNat 0, .ofNat 0), none)]
def zyx17r : Option zAV := none
noncomputable def zyx17p : List zPw := [((5, ([(0, .inr (.inr (.inl 9))), (1, .inl ((.ofNat 0, .ofNat 0), some (1, .ofNat 0))), (2, .inl ((.ofNat 0, .ofNat 8), some (2, .ofNat 0))), (3, .inl ((.ofNat 8, .ofNat 8), some (3, .ofNat 0)))], [], zyh26, 0, 0), [(2, .negSucc 1)], .ofNat 17), (zyx17r, zyh26), 2, 300)]
noncomputable def zyx17d : zKw := (16, 4, 2, 300, zyx17a, zyh17, [zyx17r], zyh26)
set_option maxRecDepth 100000 in
theorem zyx17c : zchkX zprog2 (zovW []) 100000 kJ7_fill_53178 [] zyx17p zyx17p = true := by decide +kernel
set_option maxRecDepth 100000 in
theorem zyx17e : zrunw zprog2 (zovW []) 100000 (zcutW none ((zyx17r, zyh26), 2, 300) zyx17p) 2 300 kJ7_fill_53178 (zkin zyx17r zyh26) 0 (zargs 0 zyx17a, [], (zyh17.1, zyh17.2.1, 0), 0, 0) = true := by decide +kernel
theorem zyx17 {l : Launch} {D : va_G} {tys : List (ClassId × FieldType)} {o : zO} {z : Nat} (E : zEnv tys) : zKnW l D vwCl tys o z (zXX o z) zTs zprog2 zyx17d :=
  zkn_mk E (fun g => fun _ h => absurd h List.not_mem_nil) (show zget zprog2 16 = some mJ7_fill_53178 from rfl) rfl (by decide) (by decide) (by decide) (by decide) (G := zyx17p) (zkn_pt E (fun g => fun _ h => absurd h List.not_mem_nil) (show zget zprog2 16 = some mJ7_fill_53178 from rfl) (fun _ h => absurd h List.not_mem_nil) zyx17c) zyx17e
/-! J7_fill_53178 -/
noncomputable def zyx18a : List zAV := [.inr (.inr (.inl 8)), .inl ((.ofNat 0, .ofNat 0), none)]
def zyx18r : Option zAV := none
noncomputable def zyx18p : List zPw := [((5, ([(0, .inr (.inr (.inl 8))), (1, .inl ((.ofNat 0, .ofNat 0), some (1, .ofNat 0))), (2, .inl ((.ofNat 0, .ofNat 8), some (2, .ofNat 0))), (3, .inl ((.ofNat 8, .ofNat 8), some (3, .ofNat 0)))], [], zyh28, 0, 0), [(2, .negSucc 1)], .ofNat 17), (zyx18r, zyh28), 2, 300)]
noncomputable def zyx18d : zKw := (16, 4, 2, 300, zyx18a, zyh27, [zyx18r], zyh28)
set_option maxRecDepth 100000 in
theorem zyx18c : zchkX zprog2 (zovW []) 100000 kJ7_fill_53178 [] zyx18p zyx18p = true := by decide +kernel
set_option maxRecDepth 100000 in
theorem zyx18e : zrunw zprog2 (zovW []) 100000 (zcutW none ((zyx18r, zyh28), 2, 300) zyx18p) 2 300 kJ7_fill_53178 (zkin zyx18r zyh28) 0 (zargs 0 zyx18a, [], (zyh27.1, zyh27.2.1, 0), 0, 0) = true := by decide +kernel
theorem zyx18 {l : Launch} {D : va_G} {tys : List (ClassId × FieldType)} {o : zO} {z : Nat} (E : zEnv tys) : zKnW l D vwCl tys o z (zXX o z) zTs zprog2 zyx18d :=
  zkn_mk E (fun g => fun _ h => absurd h List.not_mem_nil) (show zget zprog2 16 = some mJ7_fill_53178 from rfl) rfl (by decide) (by decide) (by decide) (by decide) (G := zyx18p) (zkn_pt E (fun g => fun _ h => absurd h List.not_mem_nil) (show zget zprog2 16 = some mJ7_fill_53178 from rfl) (fun _ h => absurd h List.not_mem_nil) zyx18c) zyx18e
/-! X0_watch -/
noncomputable def zyx19a : List zAV := [.inr (.inr (.inl 3)), .inr (.inr (.inl 15))]
def zyx19r : Option zAV := none
noncomputable def zyx19p : List zPw := [((22, ([(0, .inr (.inr (.inl 3))), (1, .inr (.inr (.inl 15))), (2, .inl ((.negSucc 0, .ofNat 7), some (2, .ofNat 0))), (3, .inl ((.ofNat 0, .ofNat 8), some (3, .ofNat 0)))], [], zyh29, 0, 0), [(3, .negSucc 1)], .ofNat 17), (zyx19r, zyh29), 4, 480)]
noncomputable def zyx19d : zKw := (32, 5, 4, 480, zyx19a, zyh17, [zyx19r], zyh29)
set_option maxRecDepth 100000 in
theorem zyx19c : zchkX zprog2 (zovW [zyx18d]) 100000 k2X0_watch [] zyx19p zyx19p = true := by decide +kernel
set_option maxRecDepth 100000 in
theorem zyx19e : zrunw zprog2 (zovW [zyx18d]) 100000 (zcutW none ((zyx19r, zyh29), 4, 480) zyx19p) 4 480 k2X0_watch (zkin zyx19r zyh29) 0 (zargs 0 zyx19a, [], (zyh17.1, zyh17.2.1, 0), 0, 0) = true := by decide +kernel
theorem zyx19 {l : Launch} {D : va_G} {tys : List (ClassId × FieldType)} {o : zO} {z : Nat} (E : zEnv tys) : zKnW l D vwCl tys o z (zXX o z) zTs zprog2 zyx19d :=
  zkn_mk E (fun g => List.forall_mem_cons.mpr ⟨zyx18 (o := zwith o g) E, fun _ h => absurd h List.not_mem_nil⟩) (show zget zprog2 32 = some m2X0_watch from rfl) rfl (by decide) (by decide) (by decide) (by decide) (G := zyx19p) (zkn_pt E (fun g => List.forall_mem_cons.mpr ⟨zyx18 (o := zwith o g) E, fun _ h => absurd h List.not_mem_nil⟩) (show zget zprog2 32 = some m2X0_watch from rfl) (fun _ h => absurd h List.not_mem_nil) zyx19c) zyx19e
/-! X0_pass -/
noncomputable def zyx20a : List zAV := [.inr (.inr (.inl 3)), .inr (.inr (.inl 15))]
def zyx20r : Option zAV := none
noncomputable def zyx20p : List zPw := [((15, ([(0, .inr (.inr (.inl 3))), (1, .inr (.inr (.inl 15))), (2, .inl ((.ofNat 0, .ofNat 8), some (2, .ofNat 0)))], [], zyh30, 0, 0), [(2, .negSucc 1)], .ofNat 36), (zyx20r, zyh30), 5, 600),
  ((78, ([(0, .inr (.inr (.inl 3))), (1, .inr (.inr (.inl 15))), (2, .inl ((.ofNat 0, .ofNat 8), some (2, .ofNat 0)))], [], zyh30, 0, 0), [(2, .negSucc 1)], .ofNat 17), (zyx20r, zyh30), 5, 600)]
noncomputable def zyx20d : zKw := (25, 4, 5, 600, zyx20a, zyh17, [zyx20r], zyh30)
set_option maxRecDepth 100000 in
theorem zyx20c : zchkX zprog2 (zovW [zyx17d, zyx19d, zyx6d, zyx5d]) 100000 k2X0_pass [] zyx20p zyx20p = true := by decide +kernel
set_option maxRecDepth 100000 in
theorem zyx20e : zrunw zprog2 (zovW [zyx17d, zyx19d, zyx6d, zyx5d]) 100000 (zcutW none ((zyx20r, zyh30), 5, 600) zyx20p) 5 600 k2X0_pass (zkin zyx20r zyh30) 0 (zargs 0 zyx20a, [], (zyh17.1, zyh17.2.1, 0), 0, 0) = true := by decide +kernel
theorem zyx20 {l : Launch} {D : va_G} {tys : List (ClassId × FieldType)} {o : zO} {z : Nat} (E : zEnv tys) : zKnW l D vwCl tys o z (zXX o z) zTs zprog2 zyx20d :=
  zkn_mk E (fun g => List.forall_mem_cons.mpr ⟨zyx17 (o := zwith o g) E, List.forall_mem_cons.mpr ⟨zyx19 (o := zwith o g) E, List.forall_mem_cons.mpr ⟨zyx6 (o := zwith o g) E, List.forall_mem_cons.mpr ⟨zyx5 (o := zwith o g) E, fun _ h => absurd h List.not_mem_nil⟩⟩⟩⟩) (show zget zprog2 25 = some m2X0_pass from rfl) rfl (by decide) (by decide) (by decide) (by decide) (G := zyx20p) (zkn_pt E (fun g => List.forall_mem_cons.mpr ⟨zyx17 (o := zwith o g) E, List.forall_mem_cons.mpr ⟨zyx19 (o := zwith o g) E, List.forall_mem_cons.mpr ⟨zyx6 (o := zwith o g) E, List.forall_mem_cons.mpr ⟨zyx5 (o := zwith o g) E, fun _ h => absurd h List.not_mem_nil⟩⟩⟩⟩) (show zget zprog2 25 = some m2X0_pass from rfl) (fun _ h => absurd h List.not_mem_nil) zyx20c) zyx20e
/-! X0_passAll -/
noncomputable def zyx21a : List zAV := [.inr (.inr (.inl 3)), .inr (.inr (.inl 15)), .inl ((.negSucc 48, .ofNat 207), none)]
def zyx21r : Option zAV := none
noncomputable def zyx21p : List zPw := [((2, ([(0, .inr (.inr (.inl 3))), (1, .inr (.inr (.inl 15))), (2, .inl ((.negSucc 48, .ofNat 207), some (2, .ofNat 0))), (3, .inl ((.ofNat 0, .ofNat 207), some (3, .ofNat 0)))], [], zyh30, 0, 0), [(3, .negSucc 1)], .ofNat 415), (zyx21r, zyh30), 6, 720)]
noncomputable def zyx21d : zKw := (26, 4, 6, 720, zyx21a, zyh17, [zyx21r], zyh30)
set_option maxRecDepth 100000 in
theorem zyx21c : zchkX zprog2 (zovW [zyx20d]) 100000 kX0_passAll [] zyx21p zyx21p = true := by decide +kernel
set_option maxRecDepth 100000 in
theorem zyx21e : zrunw zprog2 (zovW [zyx20d]) 100000 (zcutW none ((zyx21r, zyh30), 6, 720) zyx21p) 6 720 kX0_passAll (zkin zyx21r zyh30) 0 (zargs 0 zyx21a, [], (zyh17.1, zyh17.2.1, 0), 0, 0) = true := by decide +kernel
theorem zyx21 {l : Launch} {D : va_G} {tys : List (ClassId × FieldType)} {o : zO} {z : Nat} (E : zEnv tys) : zKnW l D vwCl tys o z (zXX o z) zTs zprog2 zyx21d :=
  zkn_mk E (fun g => List.forall_mem_cons.mpr ⟨zyx20 (o := zwith o g) E, fun _ h => absurd h List.not_mem_nil⟩) (show zget zprog2 26 = some mX0_passAll from rfl) rfl (by decide) (by decide) (by decide) (by decide) (G := zyx21p) (zkn_pt E (fun g => List.forall_mem_cons.mpr ⟨zyx20 (o := zwith o g) E, fun _ h => absurd h List.not_mem_nil⟩) (show zget zprog2 26 = some mX0_passAll from rfl) (fun _ h => absurd h List.not_mem_nil) zyx21c) zyx21e
/-! X7_nights -/
noncomputable def zyx22a : List zAV := [.inr (.inr (.inl 0)), .inl ((.negSucc 2147483647, .ofNat 2147483647), none)]
def zyx22r : Option zAV := some (.inl ((.negSucc 2147483647, .ofNat 2147483647), none))
noncomputable def zyx22p : List zPw := []
noncomputable def zyx22d : zKw := (147, 4, 7, 840, zyx22a, zyh0, [zyx22r], zyh31)
set_option maxRecDepth 100000 in
theorem zyx22e : zrunw zprog2 (zovW [zyx10d, zyx21d]) 100000 (zcutW none ((zyx22r, zyh31), 7, 840) zyx22p) 7 840 k2X7_nights (zkin zyx22r zyh31) 0 (zargs 0 zyx22a, [], (zyh0.1, zyh0.2.1, 0), 0, 0) = true := by decide +kernel
theorem zyx22 {l : Launch} {D : va_G} {tys : List (ClassId × FieldType)} {o : zO} {z : Nat} (E : zEnv tys) : zKnW l D vwCl tys o z (zXX o z) zTs zprog2 zyx22d :=
  zkn_mk E (fun g => List.forall_mem_cons.mpr ⟨zyx10 (o := zwith o g) E, List.forall_mem_cons.mpr ⟨zyx21 (o := zwith o g) E, fun _ h => absurd h List.not_mem_nil⟩⟩) (show zget zprog2 147 = some m2X7_nights from rfl) rfl (by decide) (by decide) (by decide) (by decide) (G := zyx22p) (fun _ h => absurd h List.not_mem_nil) zyx22e
/-! X7_actExchange -/
noncomputable def zyx23a : List zAV := [.inr (.inr (.inl 0)), .inl ((.negSucc 48, .ofNat 207), none), .inl ((.negSucc 48, .ofNat 207), none)]
def zyx23r : Option zAV := some (.inl ((.ofNat 0, .ofNat 1), none))
noncomputable def zyx23p : List zPw := [((16, ([(0, .inr (.inr (.inl 0))), (1, .inl ((.ofNat 0, .ofNat 7), some (1, .ofNat 0))), (2, .inl ((.ofNat 0, .ofNat 7), some (2, .ofNat 0))), (3, .inl ((.ofNat 0, .ofNat 8), some (3, .ofNat 0)))], [], zyh22, 0, 0), [(3, .negSucc 1)], .ofNat 17), (zyx23r, zyh22), 4, 480)]
noncomputable def zyx23d : zKw := (99, 4, 4, 480, zyx23a, zyh0, [zyx23r], zyh22)
set_option maxRecDepth 100000 in
theorem zyx23c : zchkX zprog2 (zovW []) 100000 k2X7_actExchange [] zyx23p zyx23p = true := by decide +kernel
set_option maxRecDepth 100000 in
theorem zyx23e : zrunw zprog2 (zovW []) 100000 (zcutW none ((zyx23r, zyh22), 4, 480) zyx23p) 4 480 k2X7_actExchange (zkin zyx23r zyh22) 0 (zargs 0 zyx23a, [], (zyh0.1, zyh0.2.1, 0), 0, 0) = true := by decide +kernel
theorem zyx23 {l : Launch} {D : va_G} {tys : List (ClassId × FieldType)} {o : zO} {z : Nat} (E : zEnv tys) : zKnW l D vwCl tys o z (zXX o z) zTs zprog2 zyx23d :=
  zkn_mk E (fun g => fun _ h => absurd h List.not_mem_nil) (show zget zprog2 99 = some m2X7_actExchange from rfl) rfl (by decide) (by decide) (by decide) (by decide) (G := zyx23p) (zkn_pt E (fun g => fun _ h => absurd h List.not_mem_nil) (show zget zprog2 99 = some m2X7_actExchange from rfl) (fun _ h => absurd h List.not_mem_nil) zyx23c) zyx23e
/-! X7_yearFault -/
noncomputable def zyx24a : List zAV := [.inr (.inr (.inl 0))]
def zyx24r : Option zAV := some (.inl ((.negSucc 0, .ofNat 60), none))
noncomputable def zyx24p : List zPw := [((20, ([(0, .inr (.inr (.inl 0))), (1, .inl ((.ofNat 0, .ofNat 60), some (1, .ofNat 0))), (2, .inl ((.ofNat 0, .ofNat 255), some (2, .ofNat 0))), (3, .inl ((.ofNat 0, .ofNat 2), some (3, .ofNat 0))), (4, .inl ((.ofNat 0, .ofNat 60), some (4, .ofNat 0)))], [], zyh0, 0, 0), [(4, .negSucc 1)], .ofNat 121), (zyx24r, zyh0), 3, 420)]
noncomputable def zyx24d : zKw := (182, 7, 3, 420, zyx24a, zyh0, [zyx24r], zyh0)
set_option maxRecDepth 100000 in
theorem zyx24c : zchkX zprog2 (zovW []) 100000 kX7_yearFault [] zyx24p zyx24p = true := by decide +kernel
set_option maxRecDepth 100000 in
theorem zyx24e : zrunw zprog2 (zovW []) 100000 (zcutW none ((zyx24r, zyh0), 3, 420) zyx24p) 3 420 kX7_yearFault (zkin zyx24r zyh0) 0 (zargs 0 zyx24a, [], (zyh0.1, zyh0.2.1, 0), 0, 0) = true := by decide +kernel
theorem zyx24 {l : Launch} {D : va_G} {tys : List (ClassId × FieldType)} {o : zO} {z : Nat} (E : zEnv tys) : zKnW l D vwCl tys o z (zXX o z) zTs zprog2 zyx24d :=
  zkn_mk E (fun g => fun _ h => absurd h List.not_mem_nil) (show zget zprog2 182 = some mX7_yearFault from rfl) rfl (by decide) (by decide) (by decide) (by decide) (G := zyx24p) (zkn_pt E (fun g => fun _ h => absurd h List.not_mem_nil) (show zget zprog2 182 = some mX7_yearFault from rfl) (fun _ h => absurd h List.not_mem_nil) zyx24c) zyx24e
/-! X7_year -/
noncomputable def zyx25a : List zAV := [.inr (.inr (.inl 0))]
def zyx25r : Option zAV := some (.inl ((.negSucc 2147483647, .ofNat 2147483647), none))
noncomputable def zyx25p : List zPw := [((42, ([(0, .inr (.inr (.inl 0))), (1, .inl ((.negSucc 0, .negSucc 0), some (1, .ofNat 0))), (2, .inl ((.negSucc 2147483647, .ofNat 2147483647), some (2, .ofNat 0))), (3, .inl ((.ofNat 0, .ofNat 98), some (3, .ofNat 0))), (4, .inl ((.ofNat 0, .ofNat 1), some (4, .ofNat 0))), (5, .inl ((.ofNat 0, .ofNat 60), some (5, .ofNat 0)))], [], zyh33, 0, 0), [(3, .negSucc 1)], .ofNat 197), (zyx25r, zyh32), 8, 900)]
noncomputable def zyx25d : zKw := (181, 6, 8, 900, zyx25a, zyh0, [zyx25r], zyh32)
set_option maxRecDepth 100000 in
theorem zyx25c : zchkX zprog2 (zovW [zyx24d, zyx21d, zyx23d]) 100000 kX7_year [] zyx25p zyx25p = true := by decide +kernel
set_option maxRecDepth 100000 in
theorem zyx25e : zrunw zprog2 (zovW [zyx24d, zyx21d, zyx23d]) 100000 (zcutW none ((zyx25r, zyh32), 8, 900) zyx25p) 8 900 kX7_year (zkin zyx25r zyh32) 0 (zargs 0 zyx25a, [], (zyh0.1, zyh0.2.1, 0), 0, 0) = true := by decide +kernel
theorem zyx25 {l : Launch} {D : va_G} {tys : List (ClassId × FieldType)} {o : zO} {z : Nat} (E : zEnv tys) : zKnW l D vwCl tys o z (zXX o z) zTs zprog2 zyx25d :=
  zkn_mk E (fun g => List.forall_mem_cons.mpr ⟨zyx24 (o := zwith o g) E, List.forall_mem_cons.mpr ⟨zyx21 (o := zwith o g) E, List.forall_mem_cons.mpr ⟨zyx23 (o := zwith o g) E, fun _ h => absurd h List.not_mem_nil⟩⟩⟩) (show zget zprog2 181 = some mX7_year from rfl) rfl (by decide) (by decide) (by decide) (by decide) (G := zyx25p) (zkn_pt E (fun g => List.forall_mem_cons.mpr ⟨zyx24 (o := zwith o g) E, List.forall_mem_cons.mpr ⟨zyx21 (o := zwith o g) E, List.forall_mem_cons.mpr ⟨zyx23 (o := zwith o g) E, fun _ h => absurd h List.not_mem_nil⟩⟩⟩) (show zget zprog2 181 = some mX7_year from rfl) (fun _ h => absurd h List.not_mem_nil) zyx25c) zyx25e
/-! X7_undo -/
noncomputable def zyx26a : List zAV := [.inr (.inr (.inl 0))]
def zyx26r : Option zAV := some (.inl ((.negSucc 2147483647, .ofNat 2147483647), none))
noncomputable def zyx26p : List zPw := []
noncomputable def zyx26d : zKw := (178, 1, 4, 480, zyx26a, zyh0, [zyx26r], zyh34)
set_option maxRecDepth 100000 in
theorem zyx26e : zrunw zprog2 (zovW []) 100000 (zcutW none ((zyx26r, zyh34), 4, 480) zyx26p) 4 480 kX7_undo (zkin zyx26r zyh34) 0 (zargs 0 zyx26a, [], (zyh0.1, zyh0.2.1, 0), 0, 0) = true := by decide +kernel
theorem zyx26 {l : Launch} {D : va_G} {tys : List (ClassId × FieldType)} {o : zO} {z : Nat} (E : zEnv tys) : zKnW l D vwCl tys o z (zXX o z) zTs zprog2 zyx26d :=
  zkn_mk E (fun g => fun _ h => absurd h List.not_mem_nil) (show zget zprog2 178 = some mX7_undo from rfl) rfl (by decide) (by decide) (by decide) (by decide) (G := zyx26p) (fun _ h => absurd h List.not_mem_nil) zyx26e
/-! X7_gaps -/
noncomputable def zyx27a : List zAV := [.inr (.inr (.inl 0))]
def zyx27r : Option zAV := some (.inl ((.ofNat 0, .ofNat 255), none))
noncomputable def zyx27p : List zPw := []
noncomputable def zyx27d : zKw := (124, 1, 5, 600, zyx27a, zyh0, [zyx27r], zyh35)
set_option maxRecDepth 100000 in
theorem zyx27e : zrunw zprog2 (zovW [zyx19d, zyx5d]) 100000 (zcutW none ((zyx27r, zyh35), 5, 600) zyx27p) 5 600 kX7_gaps (zkin zyx27r zyh35) 0 (zargs 0 zyx27a, [], (zyh0.1, zyh0.2.1, 0), 0, 0) = true := by decide +kernel
theorem zyx27 {l : Launch} {D : va_G} {tys : List (ClassId × FieldType)} {o : zO} {z : Nat} (E : zEnv tys) : zKnW l D vwCl tys o z (zXX o z) zTs zprog2 zyx27d :=
  zkn_mk E (fun g => List.forall_mem_cons.mpr ⟨zyx19 (o := zwith o g) E, List.forall_mem_cons.mpr ⟨zyx5 (o := zwith o g) E, fun _ h => absurd h List.not_mem_nil⟩⟩) (show zget zprog2 124 = some mX7_gaps from rfl) rfl (by decide) (by decide) (by decide) (by decide) (G := zyx27p) (fun _ h => absurd h List.not_mem_nil) zyx27e
/-! X0_watch -/
noncomputable def zyx28a : List zAV := [.inr (.inr (.inl 3)), .inr (.inr (.inl 21))]
def zyx28r : Option zAV := none
noncomputable def zyx28p : List zPw := [((22, ([(0, .inr (.inr (.inl 3))), (1, .inr (.inr (.inl 21))), (2, .inl ((.negSucc 0, .ofNat 7), some (2, .ofNat 0))), (3, .inl ((.ofNat 0, .ofNat 8), some (3, .ofNat 0)))], [], zyh36, 0, 0), [(3, .negSucc 1)], .ofNat 17), (zyx28r, zyh36), 4, 480)]
noncomputable def zyx28d : zKw := (32, 5, 4, 480, zyx28a, zyh0, [zyx28r], zyh36)
set_option maxRecDepth 100000 in
theorem zyx28c : zchkX zprog2 (zovW [zyx18d]) 100000 k2X0_watch [] zyx28p zyx28p = true := by decide +kernel
set_option maxRecDepth 100000 in
theorem zyx28e : zrunw zprog2 (zovW [zyx18d]) 100000 (zcutW none ((zyx28r, zyh36), 4, 480) zyx28p) 4 480 k2X0_watch (zkin zyx28r zyh36) 0 (zargs 0 zyx28a, [], (zyh0.1, zyh0.2.1, 0), 0, 0) = true := by decide +kernel
theorem zyx28 {l : Launch} {D : va_G} {tys : List (ClassId × FieldType)} {o : zO} {z : Nat} (E : zEnv tys) : zKnW l D vwCl tys o z (zXX o z) zTs zprog2 zyx28d :=
  zkn_mk E (fun g => List.forall_mem_cons.mpr ⟨zyx18 (o := zwith o g) E, fun _ h => absurd h List.not_mem_nil⟩) (show zget zprog2 32 = some m2X0_watch from rfl) rfl (by decide) (by decide) (by decide) (by decide) (G := zyx28p) (zkn_pt E (fun g => List.forall_mem_cons.mpr ⟨zyx18 (o := zwith o g) E, fun _ h => absurd h List.not_mem_nil⟩) (show zget zprog2 32 = some m2X0_watch from rfl) (fun _ h => absurd h List.not_mem_nil) zyx28c) zyx28e
/-! X0_pass -/
noncomputable def zyx29a : List zAV := [.inr (.inr (.inl 3)), .inr (.inr (.inl 21))]
def zyx29r : Option zAV := none
noncomputable def zyx29p : List zPw := [((15, ([(0, .inr (.inr (.inl 3))), (1, .inr (.inr (.inl 21))), (2, .inl ((.ofNat 0, .ofNat 8), some (2, .ofNat 0)))], [], zyh37, 0, 0), [(2, .negSucc 1)], .ofNat 36), (zyx29r, zyh37), 5, 600),
  ((78, ([(0, .inr (.inr (.inl 3))), (1, .inr (.inr (.inl 21))), (2, .inl ((.ofNat 0, .ofNat 8), some (2, .ofNat 0)))], [], zyh37, 0, 0), [(2, .negSucc 1)], .ofNat 17), (zyx29r, zyh37), 5, 600)]
noncomputable def zyx29d : zKw := (25, 4, 5, 600, zyx29a, zyh0, [zyx29r], zyh37)
set_option maxRecDepth 100000 in
theorem zyx29c : zchkX zprog2 (zovW [zyx17d, zyx28d, zyx6d, zyx5d]) 100000 k2X0_pass [] zyx29p zyx29p = true := by decide +kernel
set_option maxRecDepth 100000 in
theorem zyx29e : zrunw zprog2 (zovW [zyx17d, zyx28d, zyx6d, zyx5d]) 100000 (zcutW none ((zyx29r, zyh37), 5, 600) zyx29p) 5 600 k2X0_pass (zkin zyx29r zyh37) 0 (zargs 0 zyx29a, [], (zyh0.1, zyh0.2.1, 0), 0, 0) = true := by decide +kernel
theorem zyx29 {l : Launch} {D : va_G} {tys : List (ClassId × FieldType)} {o : zO} {z : Nat} (E : zEnv tys) : zKnW l D vwCl tys o z (zXX o z) zTs zprog2 zyx29d :=
  zkn_mk E (fun g => List.forall_mem_cons.mpr ⟨zyx17 (o := zwith o g) E, List.forall_mem_cons.mpr ⟨zyx28 (o := zwith o g) E, List.forall_mem_cons.mpr ⟨zyx6 (o := zwith o g) E, List.forall_mem_cons.mpr ⟨zyx5 (o := zwith o g) E, fun _ h => absurd h List.not_mem_nil⟩⟩⟩⟩) (show zget zprog2 25 = some m2X0_pass from rfl) rfl (by decide) (by decide) (by decide) (by decide) (G := zyx29p) (zkn_pt E (fun g => List.forall_mem_cons.mpr ⟨zyx17 (o := zwith o g) E, List.forall_mem_cons.mpr ⟨zyx28 (o := zwith o g) E, List.forall_mem_cons.mpr ⟨zyx6 (o := zwith o g) E, List.forall_mem_cons.mpr ⟨zyx5 (o := zwith o g) E, fun _ h => absurd h List.not_mem_nil⟩⟩⟩⟩) (show zget zprog2 25 = some m2X0_pass from rfl) (fun _ h => absurd h List.not_mem_nil) zyx29c) zyx29e
/-! X7_lowest -/
noncomputable def zyx30a : List zAV := [.inl ((.ofNat 0, .ofNat 255), none)]
def zyx30r : Option zAV := some (.inl ((.ofNat 0, .ofNat 32), none))
noncomputable def zyx30p : List zPw := []
noncomputable def zyx30d : zKw := (143, 1, 3, 420, zyx30a, zyh16, [zyx30r], zyh16)
set_option maxRecDepth 100000 in
theorem zyx30e : zrunw zprog2 (zovW []) 100000 (zcutW none ((zyx30r, zyh16), 3, 420) zyx30p) 3 420 k2X7_lowest (zkin zyx30r zyh16) 0 (zargs 0 zyx30a, [], (zyh16.1, zyh16.2.1, 0), 0, 0) = true := by decide +kernel
theorem zyx30 {l : Launch} {D : va_G} {tys : List (ClassId × FieldType)} {o : zO} {z : Nat} (E : zEnv tys) : zKnW l D vwCl tys o z (zXX o z) zTs zprog2 zyx30d :=
  zkn_mk E (fun g => fun _ h => absurd h List.not_mem_nil) (show zget zprog2 143 = some m2X7_lowest from rfl) rfl (by decide) (by decide) (by decide) (by decide) (G := zyx30p) (fun _ h => absurd h List.not_mem_nil) zyx30e
