noncomputable def zyc649 : zC := .inr (8, [zyv117, zyv26, zyv27, zyv25, zyv118, zyv119, zyv120, zyv121, zyv128, zyv122, zyv25, zyv128, zyv114, zyv17, zyv123, zyv123, zyv124, zyv125, zyv126, zyv127, zyv35, zyv128, zyv129, zyv130, zyv13, zyv131, zyv132, zyv18, zyv18, zyv133, zyv134, zyv135, zyv136, zyv137, zyv138, zyv139, zyv140, zyv141, zyv142, zyv143, zyv144, zyv145, zyv146, zyv147, zyv15, zyv13, zyv15, zyv15, zyv148, zyv149, zyv150])
noncomputable def zyr575 : List zC := [zyc60, zyc60, zyc60, zyc69, zyc10, zyc10, zyc10, zyc12, zyc70, zyc8, zyc8, zyc70, zyc8, zyc8, zyc649, zyc78]
noncomputable def zyh672 : zH := (126, [zyr9, zyr10, zyr11, zyr12, zyr13, zyr575, zyr309, zyr310], 0)
def zym35 : Nat := 1829673664174779885002165504637402565007523331001975600418845818612812824435602989880896334499468369836963149921164370867465529274168150220913248736775133870439232111454779171368336984749983929897416367924860009281763410001179573048915011290676059616616707330605798907756600122916586141138040690901059198603718208087801667445711885121666232810985932708171816142975528796498083459251217062957394808176565856283688211204976653945606242886647248765778276815274539231529154285783898100586922674962467350577601209518891152311932345484495838258705784690577176770503733560572051807170015697439407522691136691573786532581363025448382196258830777154827433308531340880252208387873357593750577369925342225778979096899516803463921570433608998056658695254884117323555205977845534572389453350873096261775554579933006284569639264765353351133264250438299990760559034725552708648425788336654244916319466739826380916694556539432712879397056569872204872810847479385362705572008011384597921966018648633840869294653735949446106782652550918100178998792173175233807424677052291010904753009138799474166309238859180856040822679584096982525658561431489371341829355247727505046459855962454192652417108633666238500392293013883923326311748968564952229770341432598674682964036317079250656404519237746490178204547561770898594697708210107913716416745069626268008131113857825119249825932856494719674554707486638129046235046689365763454114995193420054146011807118217997800368109612275016832272773502581428284320373135500693584090400992175642549852247083517426434831602949288382448274130690101854522710568856374067823065804297894896748982583676325132554973353531445950864919790467654218827640406683775548502160499910480039337400398228744707560343257718564799770729645607999459255833013671257483141672678752146253417062812285056182869250772935326742073540458028466176
noncomputable def zyh673 : zH := (126, [zyr9, zyr10, zyr11, zyr12, zyr13, zyr575, zyr309, zyr310], zym35)
def zyv373 : zAV := .inl ((.ofNat 60, .ofNat 60), none)
def zyv374 : zAV := .inl ((.ofNat 0, .ofNat 60), none)
noncomputable def zyc650 : zC := .inr (8, [zyv117, zyv26, zyv27, zyv25, zyv118, zyv119, zyv120, zyv121, zyv128, zyv122, zyv25, zyv128, zyv121, zyv17, zyv373, zyv374, zyv168, zyv125, zyv126, zyv127, zyv35, zyv128, zyv129, zyv130, zyv13, zyv131, zyv132, zyv18, zyv18, zyv133, zyv134, zyv135, zyv136, zyv137, zyv138, zyv139, zyv140, zyv141, zyv142, zyv143, zyv144, zyv145, zyv146, zyv147, zyv15, zyv13, zyv15, zyv15, zyv148, zyv149, zyv150])
noncomputable def zyr576 : List zC := [zyc60, zyc60, zyc60, zyc69, zyc10, zyc10, zyc10, zyc12, zyc70, zyc8, zyc8, zyc70, zyc8, zyc8, zyc650, zyc78]
noncomputable def zyh674 : zH := (126, [zyr9, zyr10, zyr11, zyr12, zyr13, zyr576, zyr15, zyr16], 0)
def zym36 : Nat := 153989314064693148419240630115472215876214272665249906236721521666710986681422801182199053776928325994355696147567481546685160311506713576095344444992692608938756118662068184472875962786929211325559812607805249489159579498651164016566483316384048979638793336655477284254491798157161664904969412775134529378695931657493280334214169417386535775008956587894955597436174254226472218624873026959636687623778993962820168755282671536096733686309941776248828240469984533783879067154580984340183848026743396206919683086053243436279176799197457022200643838004312425635039360729217529356268660875024947178536986438512981697600680714062789475130433504602263715115612230748154910689596363479919261313458085618785504287013229593184435212341272102143505017394548369021320037838408829325491167345866453293669081150763681951467838229497840087966793373571931814879048280510359620569263995278289230536674394971998384875250259113768139366485607314231293481267596158757176316935250486683081796548346099227069114060972301773661707549691725002574310993290688209289927435228100533476588698224132391939950378947641281109201259488149057624357678617107741387715466747184076989332082461734757961927121398989656683479941294579503327212674382761698028267675827086795683880523665859982846286309423838124642672278055637444337642075626710579972234767851288773970359487155552971160504149287441463388393930934212714342016252305985516233510646041248803731695104104551587186980413706779388476749479703074928037710359721400652421660907880762764748519470865910712119390491794514342814191962076795018052773336647069341785267157791201400115293919965491666786615525084302809362337494065647361632062880436245169853059484724621747964838932393652436673042903121847581888078557324760010960120001819251204993183138176574802509500344806175116278675364140025273636820927168625589711721660144586041066615413630946809110887269495310776404056364145341049854721035496257458178960331435678732153911610971899556497757119718852923458819278592749774962294977887460744455125343336365286932258347810816
noncomputable def zyh675 : zH := (126, [zyr9, zyr10, zyr11, zyr12, zyr13, zyr576, zyr15, zyr16], zym36)
noncomputable def zyc651 : zC := .inr (8, [zyv117, zyv26, zyv27, zyv25, zyv118, zyv119, zyv120, zyv121, zyv128, zyv122, zyv25, zyv128, zyv114, zyv17, zyv123, zyv123, zyv124, zyv125, zyv126, zyv127, zyv35, zyv128, zyv129, zyv130, zyv128, zyv131, zyv132, zyv18, zyv18, zyv133, zyv134, zyv135, zyv136, zyv137, zyv138, zyv139, zyv140, zyv141, zyv142, zyv143, zyv144, zyv145, zyv146, zyv147, zyv15, zyv13, zyv15, zyv15, zyv148, zyv149, zyv150])
noncomputable def zyr577 : List zC := [zyc60, zyc60, zyc60, zyc69, zyc10, zyc10, zyc10, zyc12, zyc70, zyc8, zyc8, zyc70, zyc8, zyc8, zyc651, zyc78]
noncomputable def zyh676 : zH := (126, [zyr9, zyr10, zyr11, zyr12, zyr13, zyr577, zyr15, zyr16], 0)
noncomputable def zyh677 : zH := (126, [zyr9, zyr10, zyr11, zyr12, zyr13, zyr577, zyr15, zyr16], zym21)
noncomputable def zyc652 : zC := .inr (8, [zyv117, zyv26, zyv27, zyv25, zyv118, zyv119, zyv120, zyv121, zyv128, zyv122, zyv25, zyv128, zyv114, zyv17, zyv123, zyv123, zyv124, zyv125, zyv126, zyv127, zyv35, zyv128, zyv129, zyv130, zyv159, zyv131, zyv132, zyv18, zyv18, zyv133, zyv134, zyv135, zyv136, zyv137, zyv138, zyv139, zyv140, zyv141, zyv142, zyv143, zyv144, zyv145, zyv146, zyv147, zyv15, zyv13, zyv15, zyv15, zyv148, zyv149, zyv150])
noncomputable def zyr578 : List zC := [zyc60, zyc60, zyc60, zyc69, zyc10, zyc10, zyc10, zyc12, zyc70, zyc8, zyc8, zyc70, zyc8, zyc8, zyc652, zyc78]
noncomputable def zyh678 : zH := (126, [zyr9, zyr10, zyr11, zyr12, zyr13, zyr578, zyr15, zyr16], 0)
noncomputable def zyh679 : zH := (126, [zyr9, zyr10, zyr11, zyr12, zyr13, zyr578, zyr15, zyr16], zym21)
noncomputable def zyc653 : zC := .inr (8, [zyv117, zyv26, zyv27, zyv25, zyv118, zyv119, zyv120, zyv121, zyv128, zyv122, zyv25, zyv128, zyv114, zyv17, zyv123, zyv123, zyv124, zyv125, zyv126, zyv127, zyv35, zyv128, zyv129, zyv130, zyv160, zyv131, zyv132, zyv18, zyv18, zyv133, zyv134, zyv135, zyv136, zyv137, zyv138, zyv139, zyv140, zyv141, zyv142, zyv143, zyv144, zyv145, zyv146, zyv147, zyv15, zyv13, zyv15, zyv15, zyv148, zyv149, zyv150])
noncomputable def zyr579 : List zC := [zyc60, zyc60, zyc60, zyc69, zyc10, zyc10, zyc10, zyc12, zyc70, zyc8, zyc8, zyc70, zyc8, zyc8, zyc653, zyc78]
noncomputable def zyh680 : zH := (126, [zyr9, zyr10, zyr11, zyr12, zyr13, zyr579, zyr15, zyr16], 0)
noncomputable def zyh681 : zH := (126, [zyr9, zyr10, zyr11, zyr12, zyr13, zyr579, zyr15, zyr16], zym21)
noncomputable def zyc654 : zC := .inr (8, [zyv117, zyv26, zyv27, zyv25, zyv118, zyv119, zyv120, zyv121, zyv128, zyv122, zyv25, zyv128, zyv114, zyv17, zyv123, zyv123, zyv124, zyv125, zyv126, zyv127, zyv35, zyv128, zyv129, zyv130, zyv161, zyv131, zyv132, zyv18, zyv18, zyv133, zyv134, zyv135, zyv136, zyv137, zyv138, zyv139, zyv140, zyv141, zyv142, zyv143, zyv144, zyv145, zyv146, zyv147, zyv15, zyv13, zyv15, zyv15, zyv148, zyv149, zyv150])
noncomputable def zyr580 : List zC := [zyc60, zyc60, zyc60, zyc69, zyc10, zyc10, zyc10, zyc12, zyc70, zyc8, zyc8, zyc70, zyc8, zyc8, zyc654, zyc78]
noncomputable def zyh682 : zH := (126, [zyr9, zyr10, zyr11, zyr12, zyr13, zyr580, zyr15, zyr16], 0)
noncomputable def zyh683 : zH := (126, [zyr9, zyr10, zyr11, zyr12, zyr13, zyr580, zyr15, zyr16], zym21)
noncomputable def zyc655 : zC := .inr (8, [zyv117, zyv26, zyv27, zyv25, zyv118, zyv119, zyv120, zyv121, zyv128, zyv122, zyv25, zyv128, zyv114, zyv17, zyv123, zyv123, zyv124, zyv125, zyv126, zyv127, zyv35, zyv128, zyv129, zyv130, zyv162, zyv131, zyv132, zyv18, zyv18, zyv133, zyv134, zyv135, zyv136, zyv137, zyv138, zyv139, zyv140, zyv141, zyv142, zyv143, zyv144, zyv145, zyv146, zyv147, zyv15, zyv13, zyv15, zyv15, zyv148, zyv149, zyv150])
noncomputable def zyr581 : List zC := [zyc60, zyc60, zyc60, zyc69, zyc10, zyc10, zyc10, zyc12, zyc70, zyc8, zyc8, zyc70, zyc8, zyc8, zyc655, zyc78]
noncomputable def zyh684 : zH := (126, [zyr9, zyr10, zyr11, zyr12, zyr13, zyr581, zyr15, zyr16], 0)
noncomputable def zyh685 : zH := (126, [zyr9, zyr10, zyr11, zyr12, zyr13, zyr581, zyr15, zyr16], zym21)
noncomputable def zyc656 : zC := .inr (8, [zyv117, zyv26, zyv27, zyv25, zyv118, zyv119, zyv120, zyv121, zyv128, zyv122, zyv25, zyv128, zyv114, zyv17, zyv123, zyv123, zyv124, zyv125, zyv126, zyv127, zyv35, zyv128, zyv129, zyv130, zyv163, zyv131, zyv132, zyv18, zyv18, zyv133, zyv134, zyv135, zyv136, zyv137, zyv138, zyv139, zyv140, zyv141, zyv142, zyv143, zyv144, zyv145, zyv146, zyv147, zyv15, zyv13, zyv15, zyv15, zyv148, zyv149, zyv150])
noncomputable def zyr582 : List zC := [zyc60, zyc60, zyc60, zyc69, zyc10, zyc10, zyc10, zyc12, zyc70, zyc8, zyc8, zyc70, zyc8, zyc8, zyc656, zyc78]
noncomputable def zyh686 : zH := (126, [zyr9, zyr10, zyr11, zyr12, zyr13, zyr582, zyr15, zyr16], 0)
noncomputable def zyh687 : zH := (126, [zyr9, zyr10, zyr11, zyr12, zyr13, zyr582, zyr15, zyr16], zym21)
noncomputable def zyc657 : zC := .inr (8, [zyv117, zyv26, zyv27, zyv25, zyv118, zyv119, zyv120, zyv121, zyv128, zyv122, zyv25, zyv128, zyv114, zyv17, zyv123, zyv123, zyv124, zyv125, zyv126, zyv127, zyv35, zyv128, zyv129, zyv130, zyv361, zyv131, zyv132, zyv18, zyv18, zyv133, zyv134, zyv135, zyv136, zyv137, zyv138, zyv139, zyv140, zyv141, zyv142, zyv143, zyv144, zyv145, zyv146, zyv147, zyv15, zyv13, zyv15, zyv15, zyv148, zyv149, zyv150])
noncomputable def zyr583 : List zC := [zyc60, zyc60, zyc60, zyc69, zyc10, zyc10, zyc10, zyc12, zyc70, zyc8, zyc8, zyc70, zyc8, zyc8, zyc657, zyc78]
noncomputable def zyh688 : zH := (126, [zyr9, zyr10, zyr11, zyr12, zyr13, zyr583, zyr15, zyr16], 0)
noncomputable def zyh689 : zH := (126, [zyr9, zyr10, zyr11, zyr12, zyr13, zyr583, zyr15, zyr16], zym21)
noncomputable def zyc658 : zC := .inr (8, [zyv117, zyv26, zyv27, zyv25, zyv118, zyv119, zyv120, zyv121, zyv128, zyv122, zyv25, zyv128, zyv114, zyv17, zyv123, zyv123, zyv124, zyv125, zyv126, zyv127, zyv35, zyv128, zyv129, zyv130, zyv156, zyv131, zyv132, zyv18, zyv18, zyv133, zyv134, zyv135, zyv136, zyv137, zyv138, zyv139, zyv140, zyv141, zyv142, zyv143, zyv144, zyv145, zyv146, zyv147, zyv15, zyv13, zyv15, zyv15, zyv148, zyv149, zyv150])
noncomputable def zyr584 : List zC := [zyc60, zyc60, zyc60, zyc69, zyc10, zyc10, zyc10, zyc12, zyc70, zyc8, zyc8, zyc70, zyc8, zyc8, zyc658, zyc78]
noncomputable def zyh690 : zH := (126, [zyr9, zyr10, zyr11, zyr12, zyr13, zyr584, zyr15, zyr16], 0)
noncomputable def zyh691 : zH := (126, [zyr9, zyr10, zyr11, zyr12, zyr13, zyr584, zyr15, zyr16], zym21)
noncomputable def zyc659 : zC := .inr (8, [zyv117, zyv26, zyv27, zyv25, zyv118, zyv119, zyv120, zyv121, zyv128, zyv122, zyv25, zyv128, zyv114, zyv17, zyv123, zyv123, zyv124, zyv125, zyv126, zyv127, zyv35, zyv128, zyv129, zyv130, zyv359, zyv131, zyv132, zyv18, zyv18, zyv133, zyv134, zyv135, zyv136, zyv137, zyv138, zyv139, zyv140, zyv141, zyv142, zyv143, zyv144, zyv145, zyv146, zyv147, zyv15, zyv13, zyv15, zyv15, zyv148, zyv149, zyv150])
noncomputable def zyr585 : List zC := [zyc60, zyc60, zyc60, zyc69, zyc10, zyc10, zyc10, zyc12, zyc70, zyc8, zyc8, zyc70, zyc8, zyc8, zyc659, zyc78]
noncomputable def zyh692 : zH := (126, [zyr9, zyr10, zyr11, zyr12, zyr13, zyr585, zyr15, zyr16], 0)
noncomputable def zyh693 : zH := (126, [zyr9, zyr10, zyr11, zyr12, zyr13, zyr585, zyr15, zyr16], zym21)
noncomputable def zyc660 : zC := .inr (8, [zyv117, zyv26, zyv27, zyv25, zyv118, zyv119, zyv120, zyv121, zyv128, zyv122, zyv25, zyv128, zyv114, zyv17, zyv123, zyv123, zyv124, zyv125, zyv126, zyv127, zyv35, zyv128, zyv129, zyv130, zyv362, zyv131, zyv132, zyv18, zyv18, zyv133, zyv134, zyv135, zyv136, zyv137, zyv138, zyv139, zyv140, zyv141, zyv142, zyv143, zyv144, zyv145, zyv146, zyv147, zyv15, zyv13, zyv15, zyv15, zyv148, zyv149, zyv150])
noncomputable def zyr586 : List zC := [zyc60, zyc60, zyc60, zyc69, zyc10, zyc10, zyc10, zyc12, zyc70, zyc8, zyc8, zyc70, zyc8, zyc8, zyc660, zyc78]
noncomputable def zyh694 : zH := (126, [zyr9, zyr10, zyr11, zyr12, zyr13, zyr586, zyr15, zyr16], 0)
noncomputable def zyh695 : zH := (126, [zyr9, zyr10, zyr11, zyr12, zyr13, zyr586, zyr15, zyr16], zym21)
noncomputable def zyc661 : zC := .inr (8, [zyv117, zyv26, zyv27, zyv25, zyv118, zyv119, zyv120, zyv121, zyv128, zyv122, zyv25, zyv128, zyv114, zyv17, zyv123, zyv123, zyv124, zyv125, zyv126, zyv127, zyv35, zyv128, zyv129, zyv130, zyv157, zyv131, zyv132, zyv18, zyv18, zyv133, zyv134, zyv135, zyv136, zyv137, zyv138, zyv139, zyv140, zyv141, zyv142, zyv143, zyv144, zyv145, zyv146, zyv147, zyv15, zyv13, zyv15, zyv15, zyv148, zyv149, zyv150])
noncomputable def zyr587 : List zC := [zyc60, zyc60, zyc60, zyc69, zyc10, zyc10, zyc10, zyc12, zyc70, zyc8, zyc8, zyc70, zyc8, zyc8, zyc661, zyc78]
noncomputable def zyh696 : zH := (126, [zyr9, zyr10, zyr11, zyr12, zyr13, zyr587, zyr15, zyr16], 0)
noncomputable def zyh697 : zH := (126, [zyr9, zyr10, zyr11, zyr12, zyr13, zyr587, zyr15, zyr16], zym21)
noncomputable def zyc662 : zC := .inr (8, [zyv117, zyv26, zyv27, zyv25, zyv118, zyv119, zyv120, zyv121, zyv128, zyv122, zyv25, zyv128, zyv114, zyv17, zyv123, zyv123, zyv124, zyv125, zyv126, zyv127, zyv35, zyv128, zyv129, zyv130, zyv158, zyv131, zyv132, zyv18, zyv18, zyv133, zyv134, zyv135, zyv136, zyv137, zyv138, zyv139, zyv140, zyv141, zyv142, zyv143, zyv144, zyv145, zyv146, zyv147, zyv15, zyv13, zyv15, zyv15, zyv148, zyv149, zyv150])
noncomputable def zyr588 : List zC := [zyc60, zyc60, zyc60, zyc69, zyc10, zyc10, zyc10, zyc12, zyc70, zyc8, zyc8, zyc70, zyc8, zyc8, zyc662, zyc78]
noncomputable def zyh698 : zH := (126, [zyr9, zyr10, zyr11, zyr12, zyr13, zyr588, zyr15, zyr16], 0)
noncomputable def zyh699 : zH := (126, [zyr9, zyr10, zyr11, zyr12, zyr13, zyr588, zyr15, zyr16], zym21)
noncomputable def zyh700 : zH := (126, [zyr9, zyr10, zyr11, zyr12, zyr13, zyr575, zyr15, zyr16], 0)
noncomputable def zyc663 : zC := .inr (8, [zyv117, zyv26, zyv27, zyv25, zyv118, zyv119, zyv120, zyv121, zyv128, zyv122, zyv25, zyv128, zyv114, zyv17, zyv123, zyv123, zyv124, zyv125, zyv126, zyv127, zyv35, zyv128, zyv129, zyv130, zyv363, zyv131, zyv132, zyv18, zyv18, zyv133, zyv134, zyv135, zyv136, zyv137, zyv138, zyv139, zyv140, zyv141, zyv142, zyv143, zyv144, zyv145, zyv146, zyv147, zyv15, zyv13, zyv15, zyv15, zyv148, zyv149, zyv150])
noncomputable def zyr589 : List zC := [zyc60, zyc60, zyc60, zyc69, zyc10, zyc10, zyc10, zyc12, zyc70, zyc8, zyc8, zyc70, zyc8, zyc8, zyc663, zyc78]
noncomputable def zyh701 : zH := (126, [zyr9, zyr10, zyr11, zyr12, zyr13, zyr589, zyr15, zyr16], zym22)
def zym37 : Nat := 17830744395772058950135894209912055765665857834099355685772055213455738117233205291860362753318626619158341948298872020221150140766543738594972908884151443240853925330512986200274013696068723927308470410436678411053249036299937877105365054497476921141412040224412068116531515449994578126773615878946007372168663324106779272856597458819444376614904673474875782071304581204953572799389356912393401820301397393452684770854370991056364322050989963696863084965664747605379838966607444016805084125194418494300636338241764583651823097706318794206314957063305109890877880207093957658868985402354713376999163263306283336404592000719449509648222262474578215704476530127783343300434869060892660550799552568519524595695895938551704231249036876642772108325457016796383123610294913244033758370165424973694951914973289025253755261705417065258057101967088489228758237096554082066455261057546464556892829585260807327448699874473093371652682068965868530478209958510139036248861091725905549916946410451282807102432706830231004199432574579235449042807193832307535613293184781818862145468049948782437975742715044678693786167953626779777633673336404608085516523953712243014197070569215719421582087865785439720463799425148453172480164244818841347350299635007858115848618817616908993554490089855759128635328417770310742920155902929485220972781545117050038923239279543584609494995698761944344943290355044423267602020286935699257841537922924957002318860633703269541130859887194106888141669309162019655420995203134286447172153752961615166090948928240269868895918294914095206263135509679635603531913513312060290974531205386278060408217719575021919196896962168363859361418980490737932758494217137767970483867454325033922092348629034627599930475420323280384757603301058280180902202667623530355316774724399520328061815354355876164047527023264380938031628414717618616605986680631859050917829550274012110945157364077930105046337078816636885462313007485066662880514916667012289190887440057447729280729084187238673364177131768529384936840173189967343097099359495452190283601097767334592895736088314430779257126564499906947064190753848877621686145283784704
noncomputable def zyh702 : zH := (126, [zyr9, zyr10, zyr11, zyr12, zyr13, zyr575, zyr15, zyr16], zym37)
noncomputable def zyc664 : zC := .inr (8, [zyv117, zyv26, zyv27, zyv25, zyv118, zyv119, zyv120, zyv121, zyv128, zyv122, zyv25, zyv128, zyv121, zyv17, zyv373, zyv128, zyv168, zyv125, zyv126, zyv127, zyv35, zyv128, zyv129, zyv130, zyv13, zyv131, zyv132, zyv18, zyv18, zyv133, zyv134, zyv135, zyv136, zyv137, zyv138, zyv139, zyv140, zyv141, zyv142, zyv143, zyv144, zyv145, zyv146, zyv147, zyv15, zyv13, zyv15, zyv15, zyv148, zyv149, zyv150])
noncomputable def zyr590 : List zC := [zyc60, zyc60, zyc60, zyc69, zyc10, zyc10, zyc10, zyc12, zyc70, zyc8, zyc8, zyc70, zyc8, zyc8, zyc664, zyc78]
noncomputable def zyh703 : zH := (126, [zyr9, zyr10, zyr11, zyr12, zyr13, zyr590, zyr15, zyr16], zym37)
def zyv375 : zAV := .inl ((.ofNat 2, .ofNat 3), none)
noncomputable def zyc665 : zC := .inr (8, [zyv117, zyv26, zyv27, zyv25, zyv118, zyv119, zyv120, zyv121, zyv128, zyv122, zyv25, zyv128, zyv121, zyv17, zyv373, zyv375, zyv168, zyv125, zyv126, zyv127, zyv35, zyv128, zyv129, zyv130, zyv13, zyv131, zyv132, zyv18, zyv18, zyv133, zyv134, zyv135, zyv136, zyv137, zyv138, zyv139, zyv140, zyv141, zyv142, zyv143, zyv144, zyv145, zyv146, zyv147, zyv15, zyv13, zyv15, zyv15, zyv148, zyv149, zyv150])
noncomputable def zyr591 : List zC := [zyc60, zyc60, zyc60, zyc69, zyc10, zyc10, zyc10, zyc12, zyc70, zyc8, zyc8, zyc70, zyc8, zyc8, zyc665, zyc78]
noncomputable def zyh704 : zH := (126, [zyr9, zyr10, zyr11, zyr12, zyr13, zyr591, zyr15, zyr16], zym37)
def zyv376 : zAV := .inl ((.ofNat 0, .ofNat 2), none)
noncomputable def zyc666 : zC := .inr (8, [zyv117, zyv26, zyv27, zyv25, zyv118, zyv119, zyv120, zyv121, zyv128, zyv122, zyv25, zyv128, zyv121, zyv17, zyv373, zyv376, zyv376, zyv125, zyv126, zyv127, zyv35, zyv128, zyv129, zyv130, zyv13, zyv131, zyv132, zyv18, zyv18, zyv133, zyv134, zyv135, zyv136, zyv137, zyv138, zyv139, zyv140, zyv141, zyv142, zyv143, zyv144, zyv145, zyv146, zyv147, zyv15, zyv13, zyv15, zyv15, zyv148, zyv149, zyv150])
noncomputable def zyr592 : List zC := [zyc60, zyc60, zyc60, zyc69, zyc10, zyc10, zyc10, zyc12, zyc70, zyc8, zyc8, zyc70, zyc8, zyc8, zyc666, zyc78]
noncomputable def zyh705 : zH := (126, [zyr9, zyr10, zyr11, zyr12, zyr13, zyr592, zyr15, zyr16], zym37)
def zyv377 : zAV := .inl ((.ofNat 4, .ofNat 6), none)
noncomputable def zyc667 : zC := .inr (8, [zyv117, zyv26, zyv27, zyv25, zyv118, zyv119, zyv120, zyv121, zyv128, zyv122, zyv25, zyv128, zyv121, zyv17, zyv373, zyv377, zyv168, zyv125, zyv126, zyv127, zyv35, zyv128, zyv129, zyv130, zyv13, zyv131, zyv132, zyv18, zyv18, zyv133, zyv134, zyv135, zyv136, zyv137, zyv138, zyv139, zyv140, zyv141, zyv142, zyv143, zyv144, zyv145, zyv146, zyv147, zyv15, zyv13, zyv15, zyv15, zyv148, zyv149, zyv150])
noncomputable def zyr593 : List zC := [zyc60, zyc60, zyc60, zyc69, zyc10, zyc10, zyc10, zyc12, zyc70, zyc8, zyc8, zyc70, zyc8, zyc8, zyc667, zyc78]
noncomputable def zyh706 : zH := (126, [zyr9, zyr10, zyr11, zyr12, zyr13, zyr593, zyr15, zyr16], zym37)
def zyv378 : zAV := .inl ((.ofNat 2, .ofNat 5), none)
noncomputable def zyc668 : zC := .inr (8, [zyv117, zyv26, zyv27, zyv25, zyv118, zyv119, zyv120, zyv121, zyv128, zyv122, zyv25, zyv128, zyv121, zyv17, zyv373, zyv378, zyv378, zyv125, zyv126, zyv127, zyv35, zyv128, zyv129, zyv130, zyv13, zyv131, zyv132, zyv18, zyv18, zyv133, zyv134, zyv135, zyv136, zyv137, zyv138, zyv139, zyv140, zyv141, zyv142, zyv143, zyv144, zyv145, zyv146, zyv147, zyv15, zyv13, zyv15, zyv15, zyv148, zyv149, zyv150])
noncomputable def zyr594 : List zC := [zyc60, zyc60, zyc60, zyc69, zyc10, zyc10, zyc10, zyc12, zyc70, zyc8, zyc8, zyc70, zyc8, zyc8, zyc668, zyc78]
noncomputable def zyh707 : zH := (126, [zyr9, zyr10, zyr11, zyr12, zyr13, zyr594, zyr15, zyr16], zym37)
def zyv379 : zAV := .inl ((.ofNat 6, .ofNat 9), none)
noncomputable def zyc669 : zC := .inr (8, [zyv117, zyv26, zyv27, zyv25, zyv118, zyv119, zyv120, zyv121, zyv128, zyv122, zyv25, zyv128, zyv121, zyv17, zyv373, zyv379, zyv168, zyv125, zyv126, zyv127, zyv35, zyv128, zyv129, zyv130, zyv13, zyv131, zyv132, zyv18, zyv18, zyv133, zyv134, zyv135, zyv136, zyv137, zyv138, zyv139, zyv140, zyv141, zyv142, zyv143, zyv144, zyv145, zyv146, zyv147, zyv15, zyv13, zyv15, zyv15, zyv148, zyv149, zyv150])
noncomputable def zyr595 : List zC := [zyc60, zyc60, zyc60, zyc69, zyc10, zyc10, zyc10, zyc12, zyc70, zyc8, zyc8, zyc70, zyc8, zyc8, zyc669, zyc78]
noncomputable def zyh708 : zH := (126, [zyr9, zyr10, zyr11, zyr12, zyr13, zyr595, zyr15, zyr16], zym37)
def zyv380 : zAV := .inl ((.ofNat 4, .ofNat 8), none)
noncomputable def zyc670 : zC := .inr (8, [zyv117, zyv26, zyv27, zyv25, zyv118, zyv119, zyv120, zyv121, zyv128, zyv122, zyv25, zyv128, zyv121, zyv17, zyv373, zyv380, zyv380, zyv125, zyv126, zyv127, zyv35, zyv128, zyv129, zyv130, zyv13, zyv131, zyv132, zyv18, zyv18, zyv133, zyv134, zyv135, zyv136, zyv137, zyv138, zyv139, zyv140, zyv141, zyv142, zyv143, zyv144, zyv145, zyv146, zyv147, zyv15, zyv13, zyv15, zyv15, zyv148, zyv149, zyv150])
noncomputable def zyr596 : List zC := [zyc60, zyc60, zyc60, zyc69, zyc10, zyc10, zyc10, zyc12, zyc70, zyc8, zyc8, zyc70, zyc8, zyc8, zyc670, zyc78]
noncomputable def zyh709 : zH := (126, [zyr9, zyr10, zyr11, zyr12, zyr13, zyr596, zyr15, zyr16], zym37)
def zyv381 : zAV := .inl ((.ofNat 8, .ofNat 12), none)
noncomputable def zyc671 : zC := .inr (8, [zyv117, zyv26, zyv27, zyv25, zyv118, zyv119, zyv120, zyv121, zyv128, zyv122, zyv25, zyv128, zyv121, zyv17, zyv373, zyv381, zyv168, zyv125, zyv126, zyv127, zyv35, zyv128, zyv129, zyv130, zyv13, zyv131, zyv132, zyv18, zyv18, zyv133, zyv134, zyv135, zyv136, zyv137, zyv138, zyv139, zyv140, zyv141, zyv142, zyv143, zyv144, zyv145, zyv146, zyv147, zyv15, zyv13, zyv15, zyv15, zyv148, zyv149, zyv150])
noncomputable def zyr597 : List zC := [zyc60, zyc60, zyc60, zyc69, zyc10, zyc10, zyc10, zyc12, zyc70, zyc8, zyc8, zyc70, zyc8, zyc8, zyc671, zyc78]
noncomputable def zyh710 : zH := (126, [zyr9, zyr10, zyr11, zyr12, zyr13, zyr597, zyr15, zyr16], zym37)
def zyv382 : zAV := .inl ((.ofNat 6, .ofNat 11), none)
noncomputable def zyc672 : zC := .inr (8, [zyv117, zyv26, zyv27, zyv25, zyv118, zyv119, zyv120, zyv121, zyv128, zyv122, zyv25, zyv128, zyv121, zyv17, zyv373, zyv382, zyv382, zyv125, zyv126, zyv127, zyv35, zyv128, zyv129, zyv130, zyv13, zyv131, zyv132, zyv18, zyv18, zyv133, zyv134, zyv135, zyv136, zyv137, zyv138, zyv139, zyv140, zyv141, zyv142, zyv143, zyv144, zyv145, zyv146, zyv147, zyv15, zyv13, zyv15, zyv15, zyv148, zyv149, zyv150])
noncomputable def zyr598 : List zC := [zyc60, zyc60, zyc60, zyc69, zyc10, zyc10, zyc10, zyc12, zyc70, zyc8, zyc8, zyc70, zyc8, zyc8, zyc672, zyc78]
noncomputable def zyh711 : zH := (126, [zyr9, zyr10, zyr11, zyr12, zyr13, zyr598, zyr15, zyr16], zym37)
def zyv383 : zAV := .inl ((.ofNat 10, .ofNat 15), none)
noncomputable def zyc673 : zC := .inr (8, [zyv117, zyv26, zyv27, zyv25, zyv118, zyv119, zyv120, zyv121, zyv128, zyv122, zyv25, zyv128, zyv121, zyv17, zyv373, zyv383, zyv168, zyv125, zyv126, zyv127, zyv35, zyv128, zyv129, zyv130, zyv13, zyv131, zyv132, zyv18, zyv18, zyv133, zyv134, zyv135, zyv136, zyv137, zyv138, zyv139, zyv140, zyv141, zyv142, zyv143, zyv144, zyv145, zyv146, zyv147, zyv15, zyv13, zyv15, zyv15, zyv148, zyv149, zyv150])
noncomputable def zyr599 : List zC := [zyc60, zyc60, zyc60, zyc69, zyc10, zyc10, zyc10, zyc12, zyc70, zyc8, zyc8, zyc70, zyc8, zyc8, zyc673, zyc78]
noncomputable def zyh712 : zH := (126, [zyr9, zyr10, zyr11, zyr12, zyr13, zyr599, zyr15, zyr16], zym37)
def zyv384 : zAV := .inl ((.ofNat 8, .ofNat 14), none)
noncomputable def zyc674 : zC := .inr (8, [zyv117, zyv26, zyv27, zyv25, zyv118, zyv119, zyv120, zyv121, zyv128, zyv122, zyv25, zyv128, zyv121, zyv17, zyv373, zyv384, zyv384, zyv125, zyv126, zyv127, zyv35, zyv128, zyv129, zyv130, zyv13, zyv131, zyv132, zyv18, zyv18, zyv133, zyv134, zyv135, zyv136, zyv137, zyv138, zyv139, zyv140, zyv141, zyv142, zyv143, zyv144, zyv145, zyv146, zyv147, zyv15, zyv13, zyv15, zyv15, zyv148, zyv149, zyv150])
noncomputable def zyr600 : List zC := [zyc60, zyc60, zyc60, zyc69, zyc10, zyc10, zyc10, zyc12, zyc70, zyc8, zyc8, zyc70, zyc8, zyc8, zyc674, zyc78]
noncomputable def zyh713 : zH := (126, [zyr9, zyr10, zyr11, zyr12, zyr13, zyr600, zyr15, zyr16], zym37)
def zyv385 : zAV := .inl ((.ofNat 12, .ofNat 18), none)
noncomputable def zyc675 : zC := .inr (8, [zyv117, zyv26, zyv27, zyv25, zyv118, zyv119, zyv120, zyv121, zyv128, zyv122, zyv25, zyv128, zyv121, zyv17, zyv373, zyv385, zyv168, zyv125, zyv126, zyv127, zyv35, zyv128, zyv129, zyv130, zyv13, zyv131, zyv132, zyv18, zyv18, zyv133, zyv134, zyv135, zyv136, zyv137, zyv138, zyv139, zyv140, zyv141, zyv142, zyv143, zyv144, zyv145, zyv146, zyv147, zyv15, zyv13, zyv15, zyv15, zyv148, zyv149, zyv150])
noncomputable def zyr601 : List zC := [zyc60, zyc60, zyc60, zyc69, zyc10, zyc10, zyc10, zyc12, zyc70, zyc8, zyc8, zyc70, zyc8, zyc8, zyc675, zyc78]
noncomputable def zyh714 : zH := (126, [zyr9, zyr10, zyr11, zyr12, zyr13, zyr601, zyr15, zyr16], zym37)
def zyv386 : zAV := .inl ((.ofNat 10, .ofNat 17), none)
noncomputable def zyc676 : zC := .inr (8, [zyv117, zyv26, zyv27, zyv25, zyv118, zyv119, zyv120, zyv121, zyv128, zyv122, zyv25, zyv128, zyv121, zyv17, zyv373, zyv386, zyv386, zyv125, zyv126, zyv127, zyv35, zyv128, zyv129, zyv130, zyv13, zyv131, zyv132, zyv18, zyv18, zyv133, zyv134, zyv135, zyv136, zyv137, zyv138, zyv139, zyv140, zyv141, zyv142, zyv143, zyv144, zyv145, zyv146, zyv147, zyv15, zyv13, zyv15, zyv15, zyv148, zyv149, zyv150])
noncomputable def zyr602 : List zC := [zyc60, zyc60, zyc60, zyc69, zyc10, zyc10, zyc10, zyc12, zyc70, zyc8, zyc8, zyc70, zyc8, zyc8, zyc676, zyc78]
noncomputable def zyh715 : zH := (126, [zyr9, zyr10, zyr11, zyr12, zyr13, zyr602, zyr15, zyr16], zym37)
def zyv387 : zAV := .inl ((.ofNat 14, .ofNat 21), none)
noncomputable def zyc677 : zC := .inr (8, [zyv117, zyv26, zyv27, zyv25, zyv118, zyv119, zyv120, zyv121, zyv128, zyv122, zyv25, zyv128, zyv121, zyv17, zyv373, zyv387, zyv168, zyv125, zyv126, zyv127, zyv35, zyv128, zyv129, zyv130, zyv13, zyv131, zyv132, zyv18, zyv18, zyv133, zyv134, zyv135, zyv136, zyv137, zyv138, zyv139, zyv140, zyv141, zyv142, zyv143, zyv144, zyv145, zyv146, zyv147, zyv15, zyv13, zyv15, zyv15, zyv148, zyv149, zyv150])
noncomputable def zyr603 : List zC := [zyc60, zyc60, zyc60, zyc69, zyc10, zyc10, zyc10, zyc12, zyc70, zyc8, zyc8, zyc70, zyc8, zyc8, zyc677, zyc78]
noncomputable def zyh716 : zH := (126, [zyr9, zyr10, zyr11, zyr12, zyr13, zyr603, zyr15, zyr16], zym37)
def zyv388 : zAV := .inl ((.ofNat 12, .ofNat 20), none)
noncomputable def zyc678 : zC := .inr (8, [zyv117, zyv26, zyv27, zyv25, zyv118, zyv119, zyv120, zyv121, zyv128, zyv122, zyv25, zyv128, zyv121, zyv17, zyv373, zyv388, zyv388, zyv125, zyv126, zyv127, zyv35, zyv128, zyv129, zyv130, zyv13, zyv131, zyv132, zyv18, zyv18, zyv133, zyv134, zyv135, zyv136, zyv137, zyv138, zyv139, zyv140, zyv141, zyv142, zyv143, zyv144, zyv145, zyv146, zyv147, zyv15, zyv13, zyv15, zyv15, zyv148, zyv149, zyv150])
noncomputable def zyr604 : List zC := [zyc60, zyc60, zyc60, zyc69, zyc10, zyc10, zyc10, zyc12, zyc70, zyc8, zyc8, zyc70, zyc8, zyc8, zyc678, zyc78]
noncomputable def zyh717 : zH := (126, [zyr9, zyr10, zyr11, zyr12, zyr13, zyr604, zyr15, zyr16], zym37)
def zyv389 : zAV := .inl ((.ofNat 16, .ofNat 24), none)
noncomputable def zyc679 : zC := .inr (8, [zyv117, zyv26, zyv27, zyv25, zyv118, zyv119, zyv120, zyv121, zyv128, zyv122, zyv25, zyv128, zyv121, zyv17, zyv373, zyv389, zyv168, zyv125, zyv126, zyv127, zyv35, zyv128, zyv129, zyv130, zyv13, zyv131, zyv132, zyv18, zyv18, zyv133, zyv134, zyv135, zyv136, zyv137, zyv138, zyv139, zyv140, zyv141, zyv142, zyv143, zyv144, zyv145, zyv146, zyv147, zyv15, zyv13, zyv15, zyv15, zyv148, zyv149, zyv150])
noncomputable def zyr605 : List zC := [zyc60, zyc60, zyc60, zyc69, zyc10, zyc10, zyc10, zyc12, zyc70, zyc8, zyc8, zyc70, zyc8, zyc8, zyc679, zyc78]
noncomputable def zyh718 : zH := (126, [zyr9, zyr10, zyr11, zyr12, zyr13, zyr605, zyr15, zyr16], zym37)
def zyv390 : zAV := .inl ((.ofNat 14, .ofNat 23), none)
noncomputable def zyc680 : zC := .inr (8, [zyv117, zyv26, zyv27, zyv25, zyv118, zyv119, zyv120, zyv121, zyv128, zyv122, zyv25, zyv128, zyv121, zyv17, zyv373, zyv390, zyv390, zyv125, zyv126, zyv127, zyv35, zyv128, zyv129, zyv130, zyv13, zyv131, zyv132, zyv18, zyv18, zyv133, zyv134, zyv135, zyv136, zyv137, zyv138, zyv139, zyv140, zyv141, zyv142, zyv143, zyv144, zyv145, zyv146, zyv147, zyv15, zyv13, zyv15, zyv15, zyv148, zyv149, zyv150])
noncomputable def zyr606 : List zC := [zyc60, zyc60, zyc60, zyc69, zyc10, zyc10, zyc10, zyc12, zyc70, zyc8, zyc8, zyc70, zyc8, zyc8, zyc680, zyc78]
noncomputable def zyh719 : zH := (126, [zyr9, zyr10, zyr11, zyr12, zyr13, zyr606, zyr15, zyr16], zym37)
def zyv391 : zAV := .inl ((.ofNat 18, .ofNat 27), none)
noncomputable def zyc681 : zC := .inr (8, [zyv117, zyv26, zyv27, zyv25, zyv118, zyv119, zyv120, zyv121, zyv128, zyv122, zyv25, zyv128, zyv121, zyv17, zyv373, zyv391, zyv168, zyv125, zyv126, zyv127, zyv35, zyv128, zyv129, zyv130, zyv13, zyv131, zyv132, zyv18, zyv18, zyv133, zyv134, zyv135, zyv136, zyv137, zyv138, zyv139, zyv140, zyv141, zyv142, zyv143, zyv144, zyv145, zyv146, zyv147, zyv15, zyv13, zyv15, zyv15, zyv148, zyv149, zyv150])
noncomputable def zyr607 : List zC := [zyc60, zyc60, zyc60, zyc69, zyc10, zyc10, zyc10, zyc12, zyc70, zyc8, zyc8, zyc70, zyc8, zyc8, zyc681, zyc78]
noncomputable def zyh720 : zH := (126, [zyr9, zyr10, zyr11, zyr12, zyr13, zyr607, zyr15, zyr16], zym37)
def zyv392 : zAV := .inl ((.ofNat 16, .ofNat 26), none)
noncomputable def zyc682 : zC := .inr (8, [zyv117, zyv26, zyv27, zyv25, zyv118, zyv119, zyv120, zyv121, zyv128, zyv122, zyv25, zyv128, zyv121, zyv17, zyv373, zyv392, zyv392, zyv125, zyv126, zyv127, zyv35, zyv128, zyv129, zyv130, zyv13, zyv131, zyv132, zyv18, zyv18, zyv133, zyv134, zyv135, zyv136, zyv137, zyv138, zyv139, zyv140, zyv141, zyv142, zyv143, zyv144, zyv145, zyv146, zyv147, zyv15, zyv13, zyv15, zyv15, zyv148, zyv149, zyv150])
noncomputable def zyr608 : List zC := [zyc60, zyc60, zyc60, zyc69, zyc10, zyc10, zyc10, zyc12, zyc70, zyc8, zyc8, zyc70, zyc8, zyc8, zyc682, zyc78]
noncomputable def zyh721 : zH := (126, [zyr9, zyr10, zyr11, zyr12, zyr13, zyr608, zyr15, zyr16], zym37)
def zyv393 : zAV := .inl ((.ofNat 20, .ofNat 30), none)
noncomputable def zyc683 : zC := .inr (8, [zyv117, zyv26, zyv27, zyv25, zyv118, zyv119, zyv120, zyv121, zyv128, zyv122, zyv25, zyv128, zyv121, zyv17, zyv373, zyv393, zyv168, zyv125, zyv126, zyv127, zyv35, zyv128, zyv129, zyv130, zyv13, zyv131, zyv132, zyv18, zyv18, zyv133, zyv134, zyv135, zyv136, zyv137, zyv138, zyv139, zyv140, zyv141, zyv142, zyv143, zyv144, zyv145, zyv146, zyv147, zyv15, zyv13, zyv15, zyv15, zyv148, zyv149, zyv150])
noncomputable def zyr609 : List zC := [zyc60, zyc60, zyc60, zyc69, zyc10, zyc10, zyc10, zyc12, zyc70, zyc8, zyc8, zyc70, zyc8, zyc8, zyc683, zyc78]
noncomputable def zyh722 : zH := (126, [zyr9, zyr10, zyr11, zyr12, zyr13, zyr609, zyr15, zyr16], zym37)
def zyv394 : zAV := .inl ((.ofNat 18, .ofNat 29), none)
noncomputable def zyc684 : zC := .inr (8, [zyv117, zyv26, zyv27, zyv25, zyv118, zyv119, zyv120, zyv121, zyv128, zyv122, zyv25, zyv128, zyv121, zyv17, zyv373, zyv394, zyv394, zyv125, zyv126, zyv127, zyv35, zyv128, zyv129, zyv130, zyv13, zyv131, zyv132, zyv18, zyv18, zyv133, zyv134, zyv135, zyv136, zyv137, zyv138, zyv139, zyv140, zyv141, zyv142, zyv143, zyv144, zyv145, zyv146, zyv147, zyv15, zyv13, zyv15, zyv15, zyv148, zyv149, zyv150])
noncomputable def zyr610 : List zC := [zyc60, zyc60, zyc60, zyc69, zyc10, zyc10, zyc10, zyc12, zyc70, zyc8, zyc8, zyc70, zyc8, zyc8, zyc684, zyc78]
noncomputable def zyh723 : zH := (126, [zyr9, zyr10, zyr11, zyr12, zyr13, zyr610, zyr15, zyr16], zym37)
def zyv395 : zAV := .inl ((.ofNat 22, .ofNat 33), none)
noncomputable def zyc685 : zC := .inr (8, [zyv117, zyv26, zyv27, zyv25, zyv118, zyv119, zyv120, zyv121, zyv128, zyv122, zyv25, zyv128, zyv121, zyv17, zyv373, zyv395, zyv168, zyv125, zyv126, zyv127, zyv35, zyv128, zyv129, zyv130, zyv13, zyv131, zyv132, zyv18, zyv18, zyv133, zyv134, zyv135, zyv136, zyv137, zyv138, zyv139, zyv140, zyv141, zyv142, zyv143, zyv144, zyv145, zyv146, zyv147, zyv15, zyv13, zyv15, zyv15, zyv148, zyv149, zyv150])
noncomputable def zyr611 : List zC := [zyc60, zyc60, zyc60, zyc69, zyc10, zyc10, zyc10, zyc12, zyc70, zyc8, zyc8, zyc70, zyc8, zyc8, zyc685, zyc78]
noncomputable def zyh724 : zH := (126, [zyr9, zyr10, zyr11, zyr12, zyr13, zyr611, zyr15, zyr16], zym37)
def zyv396 : zAV := .inl ((.ofNat 20, .ofNat 32), none)
noncomputable def zyc686 : zC := .inr (8, [zyv117, zyv26, zyv27, zyv25, zyv118, zyv119, zyv120, zyv121, zyv128, zyv122, zyv25, zyv128, zyv121, zyv17, zyv373, zyv396, zyv396, zyv125, zyv126, zyv127, zyv35, zyv128, zyv129, zyv130, zyv13, zyv131, zyv132, zyv18, zyv18, zyv133, zyv134, zyv135, zyv136, zyv137, zyv138, zyv139, zyv140, zyv141, zyv142, zyv143, zyv144, zyv145, zyv146, zyv147, zyv15, zyv13, zyv15, zyv15, zyv148, zyv149, zyv150])
noncomputable def zyr612 : List zC := [zyc60, zyc60, zyc60, zyc69, zyc10, zyc10, zyc10, zyc12, zyc70, zyc8, zyc8, zyc70, zyc8, zyc8, zyc686, zyc78]
noncomputable def zyh725 : zH := (126, [zyr9, zyr10, zyr11, zyr12, zyr13, zyr612, zyr15, zyr16], zym37)
def zyv397 : zAV := .inl ((.ofNat 24, .ofNat 36), none)
noncomputable def zyc687 : zC := .inr (8, [zyv117, zyv26, zyv27, zyv25, zyv118, zyv119, zyv120, zyv121, zyv128, zyv122, zyv25, zyv128, zyv121, zyv17, zyv373, zyv397, zyv168, zyv125, zyv126, zyv127, zyv35, zyv128, zyv129, zyv130, zyv13, zyv131, zyv132, zyv18, zyv18, zyv133, zyv134, zyv135, zyv136, zyv137, zyv138, zyv139, zyv140, zyv141, zyv142, zyv143, zyv144, zyv145, zyv146, zyv147, zyv15, zyv13, zyv15, zyv15, zyv148, zyv149, zyv150])
noncomputable def zyr613 : List zC := [zyc60, zyc60, zyc60, zyc69, zyc10, zyc10, zyc10, zyc12, zyc70, zyc8, zyc8, zyc70, zyc8, zyc8, zyc687, zyc78]
noncomputable def zyh726 : zH := (126, [zyr9, zyr10, zyr11, zyr12, zyr13, zyr613, zyr15, zyr16], zym37)
def zyv398 : zAV := .inl ((.ofNat 22, .ofNat 35), none)
noncomputable def zyc688 : zC := .inr (8, [zyv117, zyv26, zyv27, zyv25, zyv118, zyv119, zyv120, zyv121, zyv128, zyv122, zyv25, zyv128, zyv121, zyv17, zyv373, zyv398, zyv398, zyv125, zyv126, zyv127, zyv35, zyv128, zyv129, zyv130, zyv13, zyv131, zyv132, zyv18, zyv18, zyv133, zyv134, zyv135, zyv136, zyv137, zyv138, zyv139, zyv140, zyv141, zyv142, zyv143, zyv144, zyv145, zyv146, zyv147, zyv15, zyv13, zyv15, zyv15, zyv148, zyv149, zyv150])
noncomputable def zyr614 : List zC := [zyc60, zyc60, zyc60, zyc69, zyc10, zyc10, zyc10, zyc12, zyc70, zyc8, zyc8, zyc70, zyc8, zyc8, zyc688, zyc78]
noncomputable def zyh727 : zH := (126, [zyr9, zyr10, zyr11, zyr12, zyr13, zyr614, zyr15, zyr16], zym37)
def zyv399 : zAV := .inl ((.ofNat 26, .ofNat 39), none)
noncomputable def zyc689 : zC := .inr (8, [zyv117, zyv26, zyv27, zyv25, zyv118, zyv119, zyv120, zyv121, zyv128, zyv122, zyv25, zyv128, zyv121, zyv17, zyv373, zyv399, zyv168, zyv125, zyv126, zyv127, zyv35, zyv128, zyv129, zyv130, zyv13, zyv131, zyv132, zyv18, zyv18, zyv133, zyv134, zyv135, zyv136, zyv137, zyv138, zyv139, zyv140, zyv141, zyv142, zyv143, zyv144, zyv145, zyv146, zyv147, zyv15, zyv13, zyv15, zyv15, zyv148, zyv149, zyv150])
noncomputable def zyr615 : List zC := [zyc60, zyc60, zyc60, zyc69, zyc10, zyc10, zyc10, zyc12, zyc70, zyc8, zyc8, zyc70, zyc8, zyc8, zyc689, zyc78]
noncomputable def zyh728 : zH := (126, [zyr9, zyr10, zyr11, zyr12, zyr13, zyr615, zyr15, zyr16], zym37)
def zyv400 : zAV := .inl ((.ofNat 24, .ofNat 38), none)
noncomputable def zyc690 : zC := .inr (8, [zyv117, zyv26, zyv27, zyv25, zyv118, zyv119, zyv120, zyv121, zyv128, zyv122, zyv25, zyv128, zyv121, zyv17, zyv373, zyv400, zyv400, zyv125, zyv126, zyv127, zyv35, zyv128, zyv129, zyv130, zyv13, zyv131, zyv132, zyv18, zyv18, zyv133, zyv134, zyv135, zyv136, zyv137, zyv138, zyv139, zyv140, zyv141, zyv142, zyv143, zyv144, zyv145, zyv146, zyv147, zyv15, zyv13, zyv15, zyv15, zyv148, zyv149, zyv150])
noncomputable def zyr616 : List zC := [zyc60, zyc60, zyc60, zyc69, zyc10, zyc10, zyc10, zyc12, zyc70, zyc8, zyc8, zyc70, zyc8, zyc8, zyc690, zyc78]
noncomputable def zyh729 : zH := (126, [zyr9, zyr10, zyr11, zyr12, zyr13, zyr616, zyr15, zyr16], zym37)
def zyv401 : zAV := .inl ((.ofNat 28, .ofNat 42), none)
noncomputable def zyc691 : zC := .inr (8, [zyv117, zyv26, zyv27, zyv25, zyv118, zyv119, zyv120, zyv121, zyv128, zyv122, zyv25, zyv128, zyv121, zyv17, zyv373, zyv401, zyv168, zyv125, zyv126, zyv127, zyv35, zyv128, zyv129, zyv130, zyv13, zyv131, zyv132, zyv18, zyv18, zyv133, zyv134, zyv135, zyv136, zyv137, zyv138, zyv139, zyv140, zyv141, zyv142, zyv143, zyv144, zyv145, zyv146, zyv147, zyv15, zyv13, zyv15, zyv15, zyv148, zyv149, zyv150])
noncomputable def zyr617 : List zC := [zyc60, zyc60, zyc60, zyc69, zyc10, zyc10, zyc10, zyc12, zyc70, zyc8, zyc8, zyc70, zyc8, zyc8, zyc691, zyc78]
noncomputable def zyh730 : zH := (126, [zyr9, zyr10, zyr11, zyr12, zyr13, zyr617, zyr15, zyr16], zym37)
def zyv402 : zAV := .inl ((.ofNat 26, .ofNat 41), none)
noncomputable def zyc692 : zC := .inr (8, [zyv117, zyv26, zyv27, zyv25, zyv118, zyv119, zyv120, zyv121, zyv128, zyv122, zyv25, zyv128, zyv121, zyv17, zyv373, zyv402, zyv402, zyv125, zyv126, zyv127, zyv35, zyv128, zyv129, zyv130, zyv13, zyv131, zyv132, zyv18, zyv18, zyv133, zyv134, zyv135, zyv136, zyv137, zyv138, zyv139, zyv140, zyv141, zyv142, zyv143, zyv144, zyv145, zyv146, zyv147, zyv15, zyv13, zyv15, zyv15, zyv148, zyv149, zyv150])
noncomputable def zyr618 : List zC := [zyc60, zyc60, zyc60, zyc69, zyc10, zyc10, zyc10, zyc12, zyc70, zyc8, zyc8, zyc70, zyc8, zyc8, zyc692, zyc78]
noncomputable def zyh731 : zH := (126, [zyr9, zyr10, zyr11, zyr12, zyr13, zyr618, zyr15, zyr16], zym37)
def zyv403 : zAV := .inl ((.ofNat 30, .ofNat 45), none)
noncomputable def zyc693 : zC := .inr (8, [zyv117, zyv26, zyv27, zyv25, zyv118, zyv119, zyv120, zyv121, zyv128, zyv122, zyv25, zyv128, zyv121, zyv17, zyv373, zyv403, zyv168, zyv125, zyv126, zyv127, zyv35, zyv128, zyv129, zyv130, zyv13, zyv131, zyv132, zyv18, zyv18, zyv133, zyv134, zyv135, zyv136, zyv137, zyv138, zyv139, zyv140, zyv141, zyv142, zyv143, zyv144, zyv145, zyv146, zyv147, zyv15, zyv13, zyv15, zyv15, zyv148, zyv149, zyv150])
noncomputable def zyr619 : List zC := [zyc60, zyc60, zyc60, zyc69, zyc10, zyc10, zyc10, zyc12, zyc70, zyc8, zyc8, zyc70, zyc8, zyc8, zyc693, zyc78]
noncomputable def zyh732 : zH := (126, [zyr9, zyr10, zyr11, zyr12, zyr13, zyr619, zyr15, zyr16], zym37)
def zyv404 : zAV := .inl ((.ofNat 28, .ofNat 44), none)
noncomputable def zyc694 : zC := .inr (8, [zyv117, zyv26, zyv27, zyv25, zyv118, zyv119, zyv120, zyv121, zyv128, zyv122, zyv25, zyv128, zyv121, zyv17, zyv373, zyv404, zyv404, zyv125, zyv126, zyv127, zyv35, zyv128, zyv129, zyv130, zyv13, zyv131, zyv132, zyv18, zyv18, zyv133, zyv134, zyv135, zyv136, zyv137, zyv138, zyv139, zyv140, zyv141, zyv142, zyv143, zyv144, zyv145, zyv146, zyv147, zyv15, zyv13, zyv15, zyv15, zyv148, zyv149, zyv150])
noncomputable def zyr620 : List zC := [zyc60, zyc60, zyc60, zyc69, zyc10, zyc10, zyc10, zyc12, zyc70, zyc8, zyc8, zyc70, zyc8, zyc8, zyc694, zyc78]
noncomputable def zyh733 : zH := (126, [zyr9, zyr10, zyr11, zyr12, zyr13, zyr620, zyr15, zyr16], zym37)
def zyv405 : zAV := .inl ((.ofNat 32, .ofNat 48), none)
noncomputable def zyc695 : zC := .inr (8, [zyv117, zyv26, zyv27, zyv25, zyv118, zyv119, zyv120, zyv121, zyv128, zyv122, zyv25, zyv128, zyv121, zyv17, zyv373, zyv405, zyv168, zyv125, zyv126, zyv127, zyv35, zyv128, zyv129, zyv130, zyv13, zyv131, zyv132, zyv18, zyv18, zyv133, zyv134, zyv135, zyv136, zyv137, zyv138, zyv139, zyv140, zyv141, zyv142, zyv143, zyv144, zyv145, zyv146, zyv147, zyv15, zyv13, zyv15, zyv15, zyv148, zyv149, zyv150])
noncomputable def zyr621 : List zC := [zyc60, zyc60, zyc60, zyc69, zyc10, zyc10, zyc10, zyc12, zyc70, zyc8, zyc8, zyc70, zyc8, zyc8, zyc695, zyc78]
noncomputable def zyh734 : zH := (126, [zyr9, zyr10, zyr11, zyr12, zyr13, zyr621, zyr15, zyr16], zym37)
def zyv406 : zAV := .inl ((.ofNat 30, .ofNat 47), none)
noncomputable def zyc696 : zC := .inr (8, [zyv117, zyv26, zyv27, zyv25, zyv118, zyv119, zyv120, zyv121, zyv128, zyv122, zyv25, zyv128, zyv121, zyv17, zyv373, zyv406, zyv406, zyv125, zyv126, zyv127, zyv35, zyv128, zyv129, zyv130, zyv13, zyv131, zyv132, zyv18, zyv18, zyv133, zyv134, zyv135, zyv136, zyv137, zyv138, zyv139, zyv140, zyv141, zyv142, zyv143, zyv144, zyv145, zyv146, zyv147, zyv15, zyv13, zyv15, zyv15, zyv148, zyv149, zyv150])
noncomputable def zyr622 : List zC := [zyc60, zyc60, zyc60, zyc69, zyc10, zyc10, zyc10, zyc12, zyc70, zyc8, zyc8, zyc70, zyc8, zyc8, zyc696, zyc78]
noncomputable def zyh735 : zH := (126, [zyr9, zyr10, zyr11, zyr12, zyr13, zyr622, zyr15, zyr16], zym37)
def zyv407 : zAV := .inl ((.ofNat 34, .ofNat 51), none)
noncomputable def zyc697 : zC := .inr (8, [zyv117, zyv26, zyv27, zyv25, zyv118, zyv119, zyv120, zyv121, zyv128, zyv122, zyv25, zyv128, zyv121, zyv17, zyv373, zyv407, zyv168, zyv125, zyv126, zyv127, zyv35, zyv128, zyv129, zyv130, zyv13, zyv131, zyv132, zyv18, zyv18, zyv133, zyv134, zyv135, zyv136, zyv137, zyv138, zyv139, zyv140, zyv141, zyv142, zyv143, zyv144, zyv145, zyv146, zyv147, zyv15, zyv13, zyv15, zyv15, zyv148, zyv149, zyv150])
noncomputable def zyr623 : List zC := [zyc60, zyc60, zyc60, zyc69, zyc10, zyc10, zyc10, zyc12, zyc70, zyc8, zyc8, zyc70, zyc8, zyc8, zyc697, zyc78]
noncomputable def zyh736 : zH := (126, [zyr9, zyr10, zyr11, zyr12, zyr13, zyr623, zyr15, zyr16], zym37)
def zyv408 : zAV := .inl ((.ofNat 32, .ofNat 50), none)
noncomputable def zyc698 : zC := .inr (8, [zyv117, zyv26, zyv27, zyv25, zyv118, zyv119, zyv120, zyv121, zyv128, zyv122, zyv25, zyv128, zyv121, zyv17, zyv373, zyv408, zyv408, zyv125, zyv126, zyv127, zyv35, zyv128, zyv129, zyv130, zyv13, zyv131, zyv132, zyv18, zyv18, zyv133, zyv134, zyv135, zyv136, zyv137, zyv138, zyv139, zyv140, zyv141, zyv142, zyv143, zyv144, zyv145, zyv146, zyv147, zyv15, zyv13, zyv15, zyv15, zyv148, zyv149, zyv150])
noncomputable def zyr624 : List zC := [zyc60, zyc60, zyc60, zyc69, zyc10, zyc10, zyc10, zyc12, zyc70, zyc8, zyc8, zyc70, zyc8, zyc8, zyc698, zyc78]
noncomputable def zyh737 : zH := (126, [zyr9, zyr10, zyr11, zyr12, zyr13, zyr624, zyr15, zyr16], zym37)
def zyv409 : zAV := .inl ((.ofNat 36, .ofNat 54), none)
noncomputable def zyc699 : zC := .inr (8, [zyv117, zyv26, zyv27, zyv25, zyv118, zyv119, zyv120, zyv121, zyv128, zyv122, zyv25, zyv128, zyv121, zyv17, zyv373, zyv409, zyv168, zyv125, zyv126, zyv127, zyv35, zyv128, zyv129, zyv130, zyv13, zyv131, zyv132, zyv18, zyv18, zyv133, zyv134, zyv135, zyv136, zyv137, zyv138, zyv139, zyv140, zyv141, zyv142, zyv143, zyv144, zyv145, zyv146, zyv147, zyv15, zyv13, zyv15, zyv15, zyv148, zyv149, zyv150])
noncomputable def zyr625 : List zC := [zyc60, zyc60, zyc60, zyc69, zyc10, zyc10, zyc10, zyc12, zyc70, zyc8, zyc8, zyc70, zyc8, zyc8, zyc699, zyc78]
noncomputable def zyh738 : zH := (126, [zyr9, zyr10, zyr11, zyr12, zyr13, zyr625, zyr15, zyr16], zym37)
def zyv410 : zAV := .inl ((.ofNat 34, .ofNat 53), none)
noncomputable def zyc700 : zC := .inr (8, [zyv117, zyv26, zyv27, zyv25, zyv118, zyv119, zyv120, zyv121, zyv128, zyv122, zyv25, zyv128, zyv121, zyv17, zyv373, zyv410, zyv410, zyv125, zyv126, zyv127, zyv35, zyv128, zyv129, zyv130, zyv13, zyv131, zyv132, zyv18, zyv18, zyv133, zyv134, zyv135, zyv136, zyv137, zyv138, zyv139, zyv140, zyv141, zyv142, zyv143, zyv144, zyv145, zyv146, zyv147, zyv15, zyv13, zyv15, zyv15, zyv148, zyv149, zyv150])
noncomputable def zyr626 : List zC := [zyc60, zyc60, zyc60, zyc69, zyc10, zyc10, zyc10, zyc12, zyc70, zyc8, zyc8, zyc70, zyc8, zyc8, zyc700, zyc78]
noncomputable def zyh739 : zH := (126, [zyr9, zyr10, zyr11, zyr12, zyr13, zyr626, zyr15, zyr16], zym37)
def zyv411 : zAV := .inl ((.ofNat 38, .ofNat 57), none)
noncomputable def zyc701 : zC := .inr (8, [zyv117, zyv26, zyv27, zyv25, zyv118, zyv119, zyv120, zyv121, zyv128, zyv122, zyv25, zyv128, zyv121, zyv17, zyv373, zyv411, zyv168, zyv125, zyv126, zyv127, zyv35, zyv128, zyv129, zyv130, zyv13, zyv131, zyv132, zyv18, zyv18, zyv133, zyv134, zyv135, zyv136, zyv137, zyv138, zyv139, zyv140, zyv141, zyv142, zyv143, zyv144, zyv145, zyv146, zyv147, zyv15, zyv13, zyv15, zyv15, zyv148, zyv149, zyv150])
noncomputable def zyr627 : List zC := [zyc60, zyc60, zyc60, zyc69, zyc10, zyc10, zyc10, zyc12, zyc70, zyc8, zyc8, zyc70, zyc8, zyc8, zyc701, zyc78]
noncomputable def zyh740 : zH := (126, [zyr9, zyr10, zyr11, zyr12, zyr13, zyr627, zyr15, zyr16], zym37)
def zyv412 : zAV := .inl ((.ofNat 36, .ofNat 56), none)
noncomputable def zyc702 : zC := .inr (8, [zyv117, zyv26, zyv27, zyv25, zyv118, zyv119, zyv120, zyv121, zyv128, zyv122, zyv25, zyv128, zyv121, zyv17, zyv373, zyv412, zyv412, zyv125, zyv126, zyv127, zyv35, zyv128, zyv129, zyv130, zyv13, zyv131, zyv132, zyv18, zyv18, zyv133, zyv134, zyv135, zyv136, zyv137, zyv138, zyv139, zyv140, zyv141, zyv142, zyv143, zyv144, zyv145, zyv146, zyv147, zyv15, zyv13, zyv15, zyv15, zyv148, zyv149, zyv150])
noncomputable def zyr628 : List zC := [zyc60, zyc60, zyc60, zyc69, zyc10, zyc10, zyc10, zyc12, zyc70, zyc8, zyc8, zyc70, zyc8, zyc8, zyc702, zyc78]
noncomputable def zyh741 : zH := (126, [zyr9, zyr10, zyr11, zyr12, zyr13, zyr628, zyr15, zyr16], zym37)
def zyv413 : zAV := .inl ((.ofNat 40, .ofNat 60), none)
noncomputable def zyc703 : zC := .inr (8, [zyv117, zyv26, zyv27, zyv25, zyv118, zyv119, zyv120, zyv121, zyv128, zyv122, zyv25, zyv128, zyv121, zyv17, zyv373, zyv413, zyv168, zyv125, zyv126, zyv127, zyv35, zyv128, zyv129, zyv130, zyv13, zyv131, zyv132, zyv18, zyv18, zyv133, zyv134, zyv135, zyv136, zyv137, zyv138, zyv139, zyv140, zyv141, zyv142, zyv143, zyv144, zyv145, zyv146, zyv147, zyv15, zyv13, zyv15, zyv15, zyv148, zyv149, zyv150])
noncomputable def zyr629 : List zC := [zyc60, zyc60, zyc60, zyc69, zyc10, zyc10, zyc10, zyc12, zyc70, zyc8, zyc8, zyc70, zyc8, zyc8, zyc703, zyc78]
noncomputable def zyh742 : zH := (126, [zyr9, zyr10, zyr11, zyr12, zyr13, zyr629, zyr15, zyr16], zym37)
def zyv414 : zAV := .inl ((.ofNat 38, .ofNat 59), none)
noncomputable def zyc704 : zC := .inr (8, [zyv117, zyv26, zyv27, zyv25, zyv118, zyv119, zyv120, zyv121, zyv128, zyv122, zyv25, zyv128, zyv121, zyv17, zyv373, zyv414, zyv414, zyv125, zyv126, zyv127, zyv35, zyv128, zyv129, zyv130, zyv13, zyv131, zyv132, zyv18, zyv18, zyv133, zyv134, zyv135, zyv136, zyv137, zyv138, zyv139, zyv140, zyv141, zyv142, zyv143, zyv144, zyv145, zyv146, zyv147, zyv15, zyv13, zyv15, zyv15, zyv148, zyv149, zyv150])
noncomputable def zyr630 : List zC := [zyc60, zyc60, zyc60, zyc69, zyc10, zyc10, zyc10, zyc12, zyc70, zyc8, zyc8, zyc70, zyc8, zyc8, zyc704, zyc78]
noncomputable def zyh743 : zH := (126, [zyr9, zyr10, zyr11, zyr12, zyr13, zyr630, zyr15, zyr16], zym37)
def zyv415 : zAV := .inl ((.ofNat 42, .ofNat 60), none)
noncomputable def zyc705 : zC := .inr (8, [zyv117, zyv26, zyv27, zyv25, zyv118, zyv119, zyv120, zyv121, zyv128, zyv122, zyv25, zyv128, zyv121, zyv17, zyv373, zyv415, zyv168, zyv125, zyv126, zyv127, zyv35, zyv128, zyv129, zyv130, zyv13, zyv131, zyv132, zyv18, zyv18, zyv133, zyv134, zyv135, zyv136, zyv137, zyv138, zyv139, zyv140, zyv141, zyv142, zyv143, zyv144, zyv145, zyv146, zyv147, zyv15, zyv13, zyv15, zyv15, zyv148, zyv149, zyv150])
noncomputable def zyr631 : List zC := [zyc60, zyc60, zyc60, zyc69, zyc10, zyc10, zyc10, zyc12, zyc70, zyc8, zyc8, zyc70, zyc8, zyc8, zyc705, zyc78]
noncomputable def zyh744 : zH := (126, [zyr9, zyr10, zyr11, zyr12, zyr13, zyr631, zyr15, zyr16], zym37)
noncomputable def zyc706 : zC := .inr (8, [zyv117, zyv26, zyv27, zyv25, zyv118, zyv119, zyv120, zyv121, zyv128, zyv122, zyv25, zyv128, zyv121, zyv17, zyv373, zyv413, zyv413, zyv125, zyv126, zyv127, zyv35, zyv128, zyv129, zyv130, zyv13, zyv131, zyv132, zyv18, zyv18, zyv133, zyv134, zyv135, zyv136, zyv137, zyv138, zyv139, zyv140, zyv141, zyv142, zyv143, zyv144, zyv145, zyv146, zyv147, zyv15, zyv13, zyv15, zyv15, zyv148, zyv149, zyv150])
noncomputable def zyr632 : List zC := [zyc60, zyc60, zyc60, zyc69, zyc10, zyc10, zyc10, zyc12, zyc70, zyc8, zyc8, zyc70, zyc8, zyc8, zyc706, zyc78]
noncomputable def zyh745 : zH := (126, [zyr9, zyr10, zyr11, zyr12, zyr13, zyr632, zyr15, zyr16], zym37)
def zyv416 : zAV := .inl ((.ofNat 44, .ofNat 60), none)
noncomputable def zyc707 : zC := .inr (8, [zyv117, zyv26, zyv27, zyv25, zyv118, zyv119, zyv120, zyv121, zyv128, zyv122, zyv25, zyv128, zyv121, zyv17, zyv373, zyv416, zyv168, zyv125, zyv126, zyv127, zyv35, zyv128, zyv129, zyv130, zyv13, zyv131, zyv132, zyv18, zyv18, zyv133, zyv134, zyv135, zyv136, zyv137, zyv138, zyv139, zyv140, zyv141, zyv142, zyv143, zyv144, zyv145, zyv146, zyv147, zyv15, zyv13, zyv15, zyv15, zyv148, zyv149, zyv150])
noncomputable def zyr633 : List zC := [zyc60, zyc60, zyc60, zyc69, zyc10, zyc10, zyc10, zyc12, zyc70, zyc8, zyc8, zyc70, zyc8, zyc8, zyc707, zyc78]
noncomputable def zyh746 : zH := (126, [zyr9, zyr10, zyr11, zyr12, zyr13, zyr633, zyr15, zyr16], zym37)
noncomputable def zyc708 : zC := .inr (8, [zyv117, zyv26, zyv27, zyv25, zyv118, zyv119, zyv120, zyv121, zyv128, zyv122, zyv25, zyv128, zyv121, zyv17, zyv373, zyv415, zyv415, zyv125, zyv126, zyv127, zyv35, zyv128, zyv129, zyv130, zyv13, zyv131, zyv132, zyv18, zyv18, zyv133, zyv134, zyv135, zyv136, zyv137, zyv138, zyv139, zyv140, zyv141, zyv142, zyv143, zyv144, zyv145, zyv146, zyv147, zyv15, zyv13, zyv15, zyv15, zyv148, zyv149, zyv150])
noncomputable def zyr634 : List zC := [zyc60, zyc60, zyc60, zyc69, zyc10, zyc10, zyc10, zyc12, zyc70, zyc8, zyc8, zyc70, zyc8, zyc8, zyc708, zyc78]
noncomputable def zyh747 : zH := (126, [zyr9, zyr10, zyr11, zyr12, zyr13, zyr634, zyr15, zyr16], zym37)
def zyv417 : zAV := .inl ((.ofNat 46, .ofNat 60), none)
noncomputable def zyc709 : zC := .inr (8, [zyv117, zyv26, zyv27, zyv25, zyv118, zyv119, zyv120, zyv121, zyv128, zyv122, zyv25, zyv128, zyv121, zyv17, zyv373, zyv417, zyv168, zyv125, zyv126, zyv127, zyv35, zyv128, zyv129, zyv130, zyv13, zyv131, zyv132, zyv18, zyv18, zyv133, zyv134, zyv135, zyv136, zyv137, zyv138, zyv139, zyv140, zyv141, zyv142, zyv143, zyv144, zyv145, zyv146, zyv147, zyv15, zyv13, zyv15, zyv15, zyv148, zyv149, zyv150])
noncomputable def zyr635 : List zC := [zyc60, zyc60, zyc60, zyc69, zyc10, zyc10, zyc10, zyc12, zyc70, zyc8, zyc8, zyc70, zyc8, zyc8, zyc709, zyc78]
noncomputable def zyh748 : zH := (126, [zyr9, zyr10, zyr11, zyr12, zyr13, zyr635, zyr15, zyr16], zym37)
noncomputable def zyc710 : zC := .inr (8, [zyv117, zyv26, zyv27, zyv25, zyv118, zyv119, zyv120, zyv121, zyv128, zyv122, zyv25, zyv128, zyv121, zyv17, zyv373, zyv416, zyv416, zyv125, zyv126, zyv127, zyv35, zyv128, zyv129, zyv130, zyv13, zyv131, zyv132, zyv18, zyv18, zyv133, zyv134, zyv135, zyv136, zyv137, zyv138, zyv139, zyv140, zyv141, zyv142, zyv143, zyv144, zyv145, zyv146, zyv147, zyv15, zyv13, zyv15, zyv15, zyv148, zyv149, zyv150])
noncomputable def zyr636 : List zC := [zyc60, zyc60, zyc60, zyc69, zyc10, zyc10, zyc10, zyc12, zyc70, zyc8, zyc8, zyc70, zyc8, zyc8, zyc710, zyc78]
noncomputable def zyh749 : zH := (126, [zyr9, zyr10, zyr11, zyr12, zyr13, zyr636, zyr15, zyr16], zym37)
def zyv418 : zAV := .inl ((.ofNat 48, .ofNat 60), none)
noncomputable def zyc711 : zC := .inr (8, [zyv117, zyv26, zyv27, zyv25, zyv118, zyv119, zyv120, zyv121, zyv128, zyv122, zyv25, zyv128, zyv121, zyv17, zyv373, zyv418, zyv168, zyv125, zyv126, zyv127, zyv35, zyv128, zyv129, zyv130, zyv13, zyv131, zyv132, zyv18, zyv18, zyv133, zyv134, zyv135, zyv136, zyv137, zyv138, zyv139, zyv140, zyv141, zyv142, zyv143, zyv144, zyv145, zyv146, zyv147, zyv15, zyv13, zyv15, zyv15, zyv148, zyv149, zyv150])
noncomputable def zyr637 : List zC := [zyc60, zyc60, zyc60, zyc69, zyc10, zyc10, zyc10, zyc12, zyc70, zyc8, zyc8, zyc70, zyc8, zyc8, zyc711, zyc78]
noncomputable def zyh750 : zH := (126, [zyr9, zyr10, zyr11, zyr12, zyr13, zyr637, zyr15, zyr16], zym37)
noncomputable def zyc712 : zC := .inr (8, [zyv117, zyv26, zyv27, zyv25, zyv118, zyv119, zyv120, zyv121, zyv128, zyv122, zyv25, zyv128, zyv121, zyv17, zyv373, zyv417, zyv417, zyv125, zyv126, zyv127, zyv35, zyv128, zyv129, zyv130, zyv13, zyv131, zyv132, zyv18, zyv18, zyv133, zyv134, zyv135, zyv136, zyv137, zyv138, zyv139, zyv140, zyv141, zyv142, zyv143, zyv144, zyv145, zyv146, zyv147, zyv15, zyv13, zyv15, zyv15, zyv148, zyv149, zyv150])
noncomputable def zyr638 : List zC := [zyc60, zyc60, zyc60, zyc69, zyc10, zyc10, zyc10, zyc12, zyc70, zyc8, zyc8, zyc70, zyc8, zyc8, zyc712, zyc78]
noncomputable def zyh751 : zH := (126, [zyr9, zyr10, zyr11, zyr12, zyr13, zyr638, zyr15, zyr16], zym37)
def zyv419 : zAV := .inl ((.ofNat 50, .ofNat 60), none)
noncomputable def zyc713 : zC := .inr (8, [zyv117, zyv26, zyv27, zyv25, zyv118, zyv119, zyv120, zyv121, zyv128, zyv122, zyv25, zyv128, zyv121, zyv17, zyv373, zyv419, zyv168, zyv125, zyv126, zyv127, zyv35, zyv128, zyv129, zyv130, zyv13, zyv131, zyv132, zyv18, zyv18, zyv133, zyv134, zyv135, zyv136, zyv137, zyv138, zyv139, zyv140, zyv141, zyv142, zyv143, zyv144, zyv145, zyv146, zyv147, zyv15, zyv13, zyv15, zyv15, zyv148, zyv149, zyv150])
noncomputable def zyr639 : List zC := [zyc60, zyc60, zyc60, zyc69, zyc10, zyc10, zyc10, zyc12, zyc70, zyc8, zyc8, zyc70, zyc8, zyc8, zyc713, zyc78]
noncomputable def zyh752 : zH := (126, [zyr9, zyr10, zyr11, zyr12, zyr13, zyr639, zyr15, zyr16], zym37)
noncomputable def zyc714 : zC := .inr (8, [zyv117, zyv26, zyv27, zyv25, zyv118, zyv119, zyv120, zyv121, zyv128, zyv122, zyv25, zyv128, zyv121, zyv17, zyv373, zyv418, zyv418, zyv125, zyv126, zyv127, zyv35, zyv128, zyv129, zyv130, zyv13, zyv131, zyv132, zyv18, zyv18, zyv133, zyv134, zyv135, zyv136, zyv137, zyv138, zyv139, zyv140, zyv141, zyv142, zyv143, zyv144, zyv145, zyv146, zyv147, zyv15, zyv13, zyv15, zyv15, zyv148, zyv149, zyv150])
noncomputable def zyr640 : List zC := [zyc60, zyc60, zyc60, zyc69, zyc10, zyc10, zyc10, zyc12, zyc70, zyc8, zyc8, zyc70, zyc8, zyc8, zyc714, zyc78]
noncomputable def zyh753 : zH := (126, [zyr9, zyr10, zyr11, zyr12, zyr13, zyr640, zyr15, zyr16], zym37)
def zyv420 : zAV := .inl ((.ofNat 52, .ofNat 60), none)
noncomputable def zyc715 : zC := .inr (8, [zyv117, zyv26, zyv27, zyv25, zyv118, zyv119, zyv120, zyv121, zyv128, zyv122, zyv25, zyv128, zyv121, zyv17, zyv373, zyv420, zyv168, zyv125, zyv126, zyv127, zyv35, zyv128, zyv129, zyv130, zyv13, zyv131, zyv132, zyv18, zyv18, zyv133, zyv134, zyv135, zyv136, zyv137, zyv138, zyv139, zyv140, zyv141, zyv142, zyv143, zyv144, zyv145, zyv146, zyv147, zyv15, zyv13, zyv15, zyv15, zyv148, zyv149, zyv150])
noncomputable def zyr641 : List zC := [zyc60, zyc60, zyc60, zyc69, zyc10, zyc10, zyc10, zyc12, zyc70, zyc8, zyc8, zyc70, zyc8, zyc8, zyc715, zyc78]
noncomputable def zyh754 : zH := (126, [zyr9, zyr10, zyr11, zyr12, zyr13, zyr641, zyr15, zyr16], zym37)
noncomputable def zyc716 : zC := .inr (8, [zyv117, zyv26, zyv27, zyv25, zyv118, zyv119, zyv120, zyv121, zyv128, zyv122, zyv25, zyv128, zyv121, zyv17, zyv373, zyv419, zyv419, zyv125, zyv126, zyv127, zyv35, zyv128, zyv129, zyv130, zyv13, zyv131, zyv132, zyv18, zyv18, zyv133, zyv134, zyv135, zyv136, zyv137, zyv138, zyv139, zyv140, zyv141, zyv142, zyv143, zyv144, zyv145, zyv146, zyv147, zyv15, zyv13, zyv15, zyv15, zyv148, zyv149, zyv150])
noncomputable def zyr642 : List zC := [zyc60, zyc60, zyc60, zyc69, zyc10, zyc10, zyc10, zyc12, zyc70, zyc8, zyc8, zyc70, zyc8, zyc8, zyc716, zyc78]
noncomputable def zyh755 : zH := (126, [zyr9, zyr10, zyr11, zyr12, zyr13, zyr642, zyr15, zyr16], zym37)
def zyv421 : zAV := .inl ((.ofNat 54, .ofNat 60), none)
noncomputable def zyc717 : zC := .inr (8, [zyv117, zyv26, zyv27, zyv25, zyv118, zyv119, zyv120, zyv121, zyv128, zyv122, zyv25, zyv128, zyv121, zyv17, zyv373, zyv421, zyv168, zyv125, zyv126, zyv127, zyv35, zyv128, zyv129, zyv130, zyv13, zyv131, zyv132, zyv18, zyv18, zyv133, zyv134, zyv135, zyv136, zyv137, zyv138, zyv139, zyv140, zyv141, zyv142, zyv143, zyv144, zyv145, zyv146, zyv147, zyv15, zyv13, zyv15, zyv15, zyv148, zyv149, zyv150])
noncomputable def zyr643 : List zC := [zyc60, zyc60, zyc60, zyc69, zyc10, zyc10, zyc10, zyc12, zyc70, zyc8, zyc8, zyc70, zyc8, zyc8, zyc717, zyc78]
noncomputable def zyh756 : zH := (126, [zyr9, zyr10, zyr11, zyr12, zyr13, zyr643, zyr15, zyr16], zym37)
noncomputable def zyc718 : zC := .inr (8, [zyv117, zyv26, zyv27, zyv25, zyv118, zyv119, zyv120, zyv121, zyv128, zyv122, zyv25, zyv128, zyv121, zyv17, zyv373, zyv420, zyv420, zyv125, zyv126, zyv127, zyv35, zyv128, zyv129, zyv130, zyv13, zyv131, zyv132, zyv18, zyv18, zyv133, zyv134, zyv135, zyv136, zyv137, zyv138, zyv139, zyv140, zyv141, zyv142, zyv143, zyv144, zyv145, zyv146, zyv147, zyv15, zyv13, zyv15, zyv15, zyv148, zyv149, zyv150])
noncomputable def zyr644 : List zC := [zyc60, zyc60, zyc60, zyc69, zyc10, zyc10, zyc10, zyc12, zyc70, zyc8, zyc8, zyc70, zyc8, zyc8, zyc718, zyc78]
noncomputable def zyh757 : zH := (126, [zyr9, zyr10, zyr11, zyr12, zyr13, zyr644, zyr15, zyr16], zym37)
def zyv422 : zAV := .inl ((.ofNat 56, .ofNat 60), none)
noncomputable def zyc719 : zC := .inr (8, [zyv117, zyv26, zyv27, zyv25, zyv118, zyv119, zyv120, zyv121, zyv128, zyv122, zyv25, zyv128, zyv121, zyv17, zyv373, zyv422, zyv168, zyv125, zyv126, zyv127, zyv35, zyv128, zyv129, zyv130, zyv13, zyv131, zyv132, zyv18, zyv18, zyv133, zyv134, zyv135, zyv136, zyv137, zyv138, zyv139, zyv140, zyv141, zyv142, zyv143, zyv144, zyv145, zyv146, zyv147, zyv15, zyv13, zyv15, zyv15, zyv148, zyv149, zyv150])
noncomputable def zyr645 : List zC := [zyc60, zyc60, zyc60, zyc69, zyc10, zyc10, zyc10, zyc12, zyc70, zyc8, zyc8, zyc70, zyc8, zyc8, zyc719, zyc78]
noncomputable def zyh758 : zH := (126, [zyr9, zyr10, zyr11, zyr12, zyr13, zyr645, zyr15, zyr16], zym37)
noncomputable def zyc720 : zC := .inr (8, [zyv117, zyv26, zyv27, zyv25, zyv118, zyv119, zyv120, zyv121, zyv128, zyv122, zyv25, zyv128, zyv121, zyv17, zyv373, zyv421, zyv421, zyv125, zyv126, zyv127, zyv35, zyv128, zyv129, zyv130, zyv13, zyv131, zyv132, zyv18, zyv18, zyv133, zyv134, zyv135, zyv136, zyv137, zyv138, zyv139, zyv140, zyv141, zyv142, zyv143, zyv144, zyv145, zyv146, zyv147, zyv15, zyv13, zyv15, zyv15, zyv148, zyv149, zyv150])
noncomputable def zyr646 : List zC := [zyc60, zyc60, zyc60, zyc69, zyc10, zyc10, zyc10, zyc12, zyc70, zyc8, zyc8, zyc70, zyc8, zyc8, zyc720, zyc78]
noncomputable def zyh759 : zH := (126, [zyr9, zyr10, zyr11, zyr12, zyr13, zyr646, zyr15, zyr16], zym37)
def zyv423 : zAV := .inl ((.ofNat 58, .ofNat 60), none)
noncomputable def zyc721 : zC := .inr (8, [zyv117, zyv26, zyv27, zyv25, zyv118, zyv119, zyv120, zyv121, zyv128, zyv122, zyv25, zyv128, zyv121, zyv17, zyv373, zyv423, zyv168, zyv125, zyv126, zyv127, zyv35, zyv128, zyv129, zyv130, zyv13, zyv131, zyv132, zyv18, zyv18, zyv133, zyv134, zyv135, zyv136, zyv137, zyv138, zyv139, zyv140, zyv141, zyv142, zyv143, zyv144, zyv145, zyv146, zyv147, zyv15, zyv13, zyv15, zyv15, zyv148, zyv149, zyv150])
noncomputable def zyr647 : List zC := [zyc60, zyc60, zyc60, zyc69, zyc10, zyc10, zyc10, zyc12, zyc70, zyc8, zyc8, zyc70, zyc8, zyc8, zyc721, zyc78]
noncomputable def zyh760 : zH := (126, [zyr9, zyr10, zyr11, zyr12, zyr13, zyr647, zyr15, zyr16], zym37)
noncomputable def zyc722 : zC := .inr (8, [zyv117, zyv26, zyv27, zyv25, zyv118, zyv119, zyv120, zyv121, zyv128, zyv122, zyv25, zyv128, zyv121, zyv17, zyv373, zyv422, zyv422, zyv125, zyv126, zyv127, zyv35, zyv128, zyv129, zyv130, zyv13, zyv131, zyv132, zyv18, zyv18, zyv133, zyv134, zyv135, zyv136, zyv137, zyv138, zyv139, zyv140, zyv141, zyv142, zyv143, zyv144, zyv145, zyv146, zyv147, zyv15, zyv13, zyv15, zyv15, zyv148, zyv149, zyv150])
noncomputable def zyr648 : List zC := [zyc60, zyc60, zyc60, zyc69, zyc10, zyc10, zyc10, zyc12, zyc70, zyc8, zyc8, zyc70, zyc8, zyc8, zyc722, zyc78]
noncomputable def zyh761 : zH := (126, [zyr9, zyr10, zyr11, zyr12, zyr13, zyr648, zyr15, zyr16], zym37)
noncomputable def zyc723 : zC := .inr (8, [zyv117, zyv26, zyv27, zyv25, zyv118, zyv119, zyv120, zyv121, zyv128, zyv122, zyv25, zyv128, zyv121, zyv17, zyv373, zyv373, zyv168, zyv125, zyv126, zyv127, zyv35, zyv128, zyv129, zyv130, zyv13, zyv131, zyv132, zyv18, zyv18, zyv133, zyv134, zyv135, zyv136, zyv137, zyv138, zyv139, zyv140, zyv141, zyv142, zyv143, zyv144, zyv145, zyv146, zyv147, zyv15, zyv13, zyv15, zyv15, zyv148, zyv149, zyv150])
noncomputable def zyr649 : List zC := [zyc60, zyc60, zyc60, zyc69, zyc10, zyc10, zyc10, zyc12, zyc70, zyc8, zyc8, zyc70, zyc8, zyc8, zyc723, zyc78]
noncomputable def zyh762 : zH := (126, [zyr9, zyr10, zyr11, zyr12, zyr13, zyr649, zyr15, zyr16], zym37)
noncomputable def zyc724 : zC := .inr (8, [zyv117, zyv26, zyv27, zyv25, zyv118, zyv119, zyv120, zyv121, zyv128, zyv122, zyv25, zyv128, zyv121, zyv17, zyv373, zyv423, zyv423, zyv125, zyv126, zyv127, zyv35, zyv128, zyv129, zyv130, zyv13, zyv131, zyv132, zyv18, zyv18, zyv133, zyv134, zyv135, zyv136, zyv137, zyv138, zyv139, zyv140, zyv141, zyv142, zyv143, zyv144, zyv145, zyv146, zyv147, zyv15, zyv13, zyv15, zyv15, zyv148, zyv149, zyv150])
noncomputable def zyr650 : List zC := [zyc60, zyc60, zyc60, zyc69, zyc10, zyc10, zyc10, zyc12, zyc70, zyc8, zyc8, zyc70, zyc8, zyc8, zyc724, zyc78]
noncomputable def zyh763 : zH := (126, [zyr9, zyr10, zyr11, zyr12, zyr13, zyr650, zyr15, zyr16], zym37)
noncomputable def zyc725 : zC := .inr (8, [zyv117, zyv26, zyv27, zyv25, zyv118, zyv119, zyv120, zyv121, zyv128, zyv122, zyv25, zyv128, zyv121, zyv17, zyv373, zyv373, zyv373, zyv125, zyv126, zyv127, zyv35, zyv128, zyv129, zyv130, zyv13, zyv131, zyv132, zyv18, zyv18, zyv133, zyv134, zyv135, zyv136, zyv137, zyv138, zyv139, zyv140, zyv141, zyv142, zyv143, zyv144, zyv145, zyv146, zyv147, zyv15, zyv13, zyv15, zyv15, zyv148, zyv149, zyv150])
noncomputable def zyr651 : List zC := [zyc60, zyc60, zyc60, zyc69, zyc10, zyc10, zyc10, zyc12, zyc70, zyc8, zyc8, zyc70, zyc8, zyc8, zyc725, zyc78]
noncomputable def zyh764 : zH := (126, [zyr9, zyr10, zyr11, zyr12, zyr13, zyr651, zyr15, zyr16], zym37)
/-! X8_goExchange -/
noncomputable def zyx628a : List zAV := [.inr (.inr (.inl 94)), .inl ((.ofNat 0, .ofNat 7), none), .inl ((.ofNat 0, .ofNat 7), none)]
def zyx628r : Option zAV := none
noncomputable def zyx628p : List zPw := [((2, ([(0, .inr (.inr (.inl 94))), (1, .inl ((.ofNat 0, .ofNat 7), some (1, .ofNat 0))), (2, .inl ((.ofNat 0, .ofNat 7), some (2, .ofNat 0))), (3, .inl ((.ofNat 0, .ofNat 8), some (3, .ofNat 0)))], [], zyh673, 0, 0), [(3, .negSucc 1)], .ofNat 17), (zyx628r, zyh673), 2, 300)]
noncomputable def zyx628d : zKw := (219, 4, 2, 300, zyx628a, zyh672, [(zyx628r, zyh673)])
noncomputable def zbzyx628c : Bool := zchkX [] zprog2 (zovW []) 100000 kX8_goExchange [] zyx628p zyx628p
noncomputable def zbzyx628e : Bool := zrunw zprog2 (zovW []) 100000 (zcutW [] none ((zyx628r, zyh673), 2, 300) zyx628p) 2 300 kX8_goExchange (zkin zyx628r zyh673) 0 (zargs 0 zyx628a, [], (zyh672.1, zyh672.2.1, 0), 0, 0)
/-! X8_lay -/
noncomputable def zyx629a : List zAV := [.inr (.inr (.inl 95)), .inr (.inr (.inl 106)), .inl ((.ofNat 0, .ofNat 0), none)]
def zyx629r : Option zAV := none
noncomputable def zyx629p : List zPw := []
noncomputable def zyx629d : zKw := (246, 4, 2, 300, zyx629a, zyh674, [(zyx629r, zyh675)])
noncomputable def zbzyx629e : Bool := zrunw zprog2 (zovW []) 100000 (zcutW [] none ((zyx629r, zyh675), 2, 300) zyx629p) 2 300 kX8_lay (zkin zyx629r zyh675) 0 (zargs 0 zyx629a, [], (zyh674.1, zyh674.2.1, 0), 0, 0)
/-! X8_lay -/
noncomputable def zyx630a : List zAV := [.inr (.inr (.inl 106)), .inr (.inr (.inl 105)), .inl ((.ofNat 0, .ofNat 0), none)]
def zyx630r : Option zAV := none
noncomputable def zyx630p : List zPw := []
noncomputable def zyx630d : zKw := (246, 4, 2, 300, zyx630a, zyh676, [(zyx630r, zyh677)])
noncomputable def zbzyx630e : Bool := zrunw zprog2 (zovW []) 100000 (zcutW [] none ((zyx630r, zyh677), 2, 300) zyx630p) 2 300 kX8_lay (zkin zyx630r zyh677) 0 (zargs 0 zyx630a, [], (zyh676.1, zyh676.2.1, 0), 0, 0)
/-! X8_lay -/
noncomputable def zyx631a : List zAV := [.inr (.inr (.inl 106)), .inr (.inr (.inl 105)), .inl ((.ofNat 108, .ofNat 108), none)]
def zyx631r : Option zAV := none
noncomputable def zyx631p : List zPw := []
noncomputable def zyx631d : zKw := (246, 4, 2, 300, zyx631a, zyh678, [(zyx631r, zyh679)])
noncomputable def zbzyx631e : Bool := zrunw zprog2 (zovW []) 100000 (zcutW [] none ((zyx631r, zyh679), 2, 300) zyx631p) 2 300 kX8_lay (zkin zyx631r zyh679) 0 (zargs 0 zyx631a, [], (zyh678.1, zyh678.2.1, 0), 0, 0)
/-! X8_lay -/
noncomputable def zyx632a : List zAV := [.inr (.inr (.inl 106)), .inr (.inr (.inl 105)), .inl ((.ofNat 135, .ofNat 135), none)]
def zyx632r : Option zAV := none
noncomputable def zyx632p : List zPw := []
noncomputable def zyx632d : zKw := (246, 4, 2, 300, zyx632a, zyh680, [(zyx632r, zyh681)])
noncomputable def zbzyx632e : Bool := zrunw zprog2 (zovW []) 100000 (zcutW [] none ((zyx632r, zyh681), 2, 300) zyx632p) 2 300 kX8_lay (zkin zyx632r zyh681) 0 (zargs 0 zyx632a, [], (zyh680.1, zyh680.2.1, 0), 0, 0)
/-! X8_lay -/
noncomputable def zyx633a : List zAV := [.inr (.inr (.inl 106)), .inr (.inr (.inl 105)), .inl ((.ofNat 162, .ofNat 162), none)]
def zyx633r : Option zAV := none
noncomputable def zyx633p : List zPw := []
noncomputable def zyx633d : zKw := (246, 4, 2, 300, zyx633a, zyh682, [(zyx633r, zyh683)])
noncomputable def zbzyx633e : Bool := zrunw zprog2 (zovW []) 100000 (zcutW [] none ((zyx633r, zyh683), 2, 300) zyx633p) 2 300 kX8_lay (zkin zyx633r zyh683) 0 (zargs 0 zyx633a, [], (zyh682.1, zyh682.2.1, 0), 0, 0)
/-! X8_lay -/
noncomputable def zyx634a : List zAV := [.inr (.inr (.inl 106)), .inr (.inr (.inl 105)), .inl ((.ofNat 189, .ofNat 189), none)]
def zyx634r : Option zAV := none
noncomputable def zyx634p : List zPw := []
noncomputable def zyx634d : zKw := (246, 4, 2, 300, zyx634a, zyh684, [(zyx634r, zyh685)])
noncomputable def zbzyx634e : Bool := zrunw zprog2 (zovW []) 100000 (zcutW [] none ((zyx634r, zyh685), 2, 300) zyx634p) 2 300 kX8_lay (zkin zyx634r zyh685) 0 (zargs 0 zyx634a, [], (zyh684.1, zyh684.2.1, 0), 0, 0)
/-! X8_lay -/
noncomputable def zyx635a : List zAV := [.inr (.inr (.inl 106)), .inr (.inr (.inl 105)), .inl ((.ofNat 216, .ofNat 216), none)]
def zyx635r : Option zAV := none
noncomputable def zyx635p : List zPw := []
noncomputable def zyx635d : zKw := (246, 4, 2, 300, zyx635a, zyh686, [(zyx635r, zyh687)])
noncomputable def zbzyx635e : Bool := zrunw zprog2 (zovW []) 100000 (zcutW [] none ((zyx635r, zyh687), 2, 300) zyx635p) 2 300 kX8_lay (zkin zyx635r zyh687) 0 (zargs 0 zyx635a, [], (zyh686.1, zyh686.2.1, 0), 0, 0)
/-! X8_lay -/
noncomputable def zyx636a : List zAV := [.inr (.inr (.inl 106)), .inr (.inr (.inl 105)), .inl ((.ofNat 243, .ofNat 243), none)]
def zyx636r : Option zAV := none
noncomputable def zyx636p : List zPw := []
noncomputable def zyx636d : zKw := (246, 4, 2, 300, zyx636a, zyh688, [(zyx636r, zyh689)])
noncomputable def zbzyx636e : Bool := zrunw zprog2 (zovW []) 100000 (zcutW [] none ((zyx636r, zyh689), 2, 300) zyx636p) 2 300 kX8_lay (zkin zyx636r zyh689) 0 (zargs 0 zyx636a, [], (zyh688.1, zyh688.2.1, 0), 0, 0)
/-! X8_lay -/
noncomputable def zyx637a : List zAV := [.inr (.inr (.inl 106)), .inr (.inr (.inl 105)), .inl ((.ofNat 27, .ofNat 27), none)]
def zyx637r : Option zAV := none
noncomputable def zyx637p : List zPw := []
noncomputable def zyx637d : zKw := (246, 4, 2, 300, zyx637a, zyh690, [(zyx637r, zyh691)])
noncomputable def zbzyx637e : Bool := zrunw zprog2 (zovW []) 100000 (zcutW [] none ((zyx637r, zyh691), 2, 300) zyx637p) 2 300 kX8_lay (zkin zyx637r zyh691) 0 (zargs 0 zyx637a, [], (zyh690.1, zyh690.2.1, 0), 0, 0)
/-! X8_lay -/
noncomputable def zyx638a : List zAV := [.inr (.inr (.inl 106)), .inr (.inr (.inl 105)), .inl ((.ofNat 270, .ofNat 270), none)]
def zyx638r : Option zAV := none
noncomputable def zyx638p : List zPw := []
noncomputable def zyx638d : zKw := (246, 4, 2, 300, zyx638a, zyh692, [(zyx638r, zyh693)])
noncomputable def zbzyx638e : Bool := zrunw zprog2 (zovW []) 100000 (zcutW [] none ((zyx638r, zyh693), 2, 300) zyx638p) 2 300 kX8_lay (zkin zyx638r zyh693) 0 (zargs 0 zyx638a, [], (zyh692.1, zyh692.2.1, 0), 0, 0)
/-! X8_lay -/
noncomputable def zyx639a : List zAV := [.inr (.inr (.inl 106)), .inr (.inr (.inl 105)), .inl ((.ofNat 297, .ofNat 297), none)]
def zyx639r : Option zAV := none
noncomputable def zyx639p : List zPw := []
noncomputable def zyx639d : zKw := (246, 4, 2, 300, zyx639a, zyh694, [(zyx639r, zyh695)])
noncomputable def zbzyx639e : Bool := zrunw zprog2 (zovW []) 100000 (zcutW [] none ((zyx639r, zyh695), 2, 300) zyx639p) 2 300 kX8_lay (zkin zyx639r zyh695) 0 (zargs 0 zyx639a, [], (zyh694.1, zyh694.2.1, 0), 0, 0)
/-! X8_lay -/
noncomputable def zyx640a : List zAV := [.inr (.inr (.inl 106)), .inr (.inr (.inl 105)), .inl ((.ofNat 54, .ofNat 54), none)]
def zyx640r : Option zAV := none
noncomputable def zyx640p : List zPw := []
noncomputable def zyx640d : zKw := (246, 4, 2, 300, zyx640a, zyh696, [(zyx640r, zyh697)])
noncomputable def zbzyx640e : Bool := zrunw zprog2 (zovW []) 100000 (zcutW [] none ((zyx640r, zyh697), 2, 300) zyx640p) 2 300 kX8_lay (zkin zyx640r zyh697) 0 (zargs 0 zyx640a, [], (zyh696.1, zyh696.2.1, 0), 0, 0)
/-! X8_lay -/
noncomputable def zyx641a : List zAV := [.inr (.inr (.inl 106)), .inr (.inr (.inl 105)), .inl ((.ofNat 81, .ofNat 81), none)]
def zyx641r : Option zAV := none
noncomputable def zyx641p : List zPw := []
noncomputable def zyx641d : zKw := (246, 4, 2, 300, zyx641a, zyh698, [(zyx641r, zyh699)])
noncomputable def zbzyx641e : Bool := zrunw zprog2 (zovW []) 100000 (zcutW [] none ((zyx641r, zyh699), 2, 300) zyx641p) 2 300 kX8_lay (zkin zyx641r zyh699) 0 (zargs 0 zyx641a, [], (zyh698.1, zyh698.2.1, 0), 0, 0)
/-! X8_remember -/
noncomputable def zyx642a : List zAV := [.inr (.inr (.inl 94)), .inr (.inr (.inl 106))]
def zyx642r : Option zAV := none
noncomputable def zyx642p : List zPw := []
noncomputable def zyx642d : zKw := (269, 3, 3, 420, zyx642a, zyh700, [(zyx642r, zyh701)])
noncomputable def zbzyx642e : Bool := zrunw zprog2 (zovW [zyx630d, zyx631d, zyx632d, zyx633d, zyx634d, zyx635d, zyx636d, zyx637d, zyx638d, zyx639d, zyx640d, zyx641d]) 100000 (zcutW [] none ((zyx642r, zyh701), 3, 420) zyx642p) 3 420 k2X8_remember (zkin zyx642r zyh701) 0 (zargs 0 zyx642a, [], (zyh700.1, zyh700.2.1, 0), 0, 0)
/-! X8_year -/
noncomputable def zyx643a : List zAV := [.inr (.inr (.inl 94))]
def zyx643r : Option zAV := some (.inl ((.negSucc 60, .ofNat 39), none))
noncomputable def zyx643p : List zPw := [((13, ([(0, .inr (.inr (.inl 94))), (1, .inl ((.ofNat 0, .ofNat 0), some (1, .ofNat 0)))], [], zyh703, 0, 0), [(1, .negSucc 1)], .ofNat 144), (zyx643r, zyh702), 172, 20580),
  ((13, ([(0, .inr (.inr (.inl 94))), (1, .inl ((.ofNat 1, .ofNat 1), some (1, .ofNat 0)))], [], zyh704, 0, 0), [(1, .negSucc 1)], .ofNat 144), (zyx643r, zyh702), 172, 20580),
  ((13, ([(0, .inr (.inr (.inl 94))), (1, .inl ((.ofNat 1, .ofNat 1), some (1, .ofNat 0)))], [], zyh705, 0, 0), [(1, .negSucc 1)], .ofNat 144), (zyx643r, zyh702), 172, 20580),
  ((13, ([(0, .inr (.inr (.inl 94))), (1, .inl ((.ofNat 2, .ofNat 2), some (1, .ofNat 0)))], [], zyh706, 0, 0), [(1, .negSucc 1)], .ofNat 144), (zyx643r, zyh702), 172, 20580),
  ((13, ([(0, .inr (.inr (.inl 94))), (1, .inl ((.ofNat 2, .ofNat 2), some (1, .ofNat 0)))], [], zyh707, 0, 0), [(1, .negSucc 1)], .ofNat 144), (zyx643r, zyh702), 172, 20580),
  ((13, ([(0, .inr (.inr (.inl 94))), (1, .inl ((.ofNat 3, .ofNat 3), some (1, .ofNat 0)))], [], zyh708, 0, 0), [(1, .negSucc 1)], .ofNat 144), (zyx643r, zyh702), 172, 20580),
  ((13, ([(0, .inr (.inr (.inl 94))), (1, .inl ((.ofNat 3, .ofNat 3), some (1, .ofNat 0)))], [], zyh709, 0, 0), [(1, .negSucc 1)], .ofNat 144), (zyx643r, zyh702), 172, 20580),
  ((13, ([(0, .inr (.inr (.inl 94))), (1, .inl ((.ofNat 4, .ofNat 4), some (1, .ofNat 0)))], [], zyh710, 0, 0), [(1, .negSucc 1)], .ofNat 144), (zyx643r, zyh702), 172, 20580),
  ((13, ([(0, .inr (.inr (.inl 94))), (1, .inl ((.ofNat 4, .ofNat 4), some (1, .ofNat 0)))], [], zyh711, 0, 0), [(1, .negSucc 1)], .ofNat 144), (zyx643r, zyh702), 172, 20580),
  ((13, ([(0, .inr (.inr (.inl 94))), (1, .inl ((.ofNat 5, .ofNat 5), some (1, .ofNat 0)))], [], zyh712, 0, 0), [(1, .negSucc 1)], .ofNat 144), (zyx643r, zyh702), 172, 20580),
  ((13, ([(0, .inr (.inr (.inl 94))), (1, .inl ((.ofNat 5, .ofNat 5), some (1, .ofNat 0)))], [], zyh713, 0, 0), [(1, .negSucc 1)], .ofNat 144), (zyx643r, zyh702), 172, 20580),
  ((13, ([(0, .inr (.inr (.inl 94))), (1, .inl ((.ofNat 6, .ofNat 6), some (1, .ofNat 0)))], [], zyh714, 0, 0), [(1, .negSucc 1)], .ofNat 144), (zyx643r, zyh702), 172, 20580),
  ((13, ([(0, .inr (.inr (.inl 94))), (1, .inl ((.ofNat 6, .ofNat 6), some (1, .ofNat 0)))], [], zyh715, 0, 0), [(1, .negSucc 1)], .ofNat 144), (zyx643r, zyh702), 172, 20580),
  ((13, ([(0, .inr (.inr (.inl 94))), (1, .inl ((.ofNat 7, .ofNat 7), some (1, .ofNat 0)))], [], zyh716, 0, 0), [(1, .negSucc 1)], .ofNat 144), (zyx643r, zyh702), 172, 20580),
  ((13, ([(0, .inr (.inr (.inl 94))), (1, .inl ((.ofNat 7, .ofNat 7), some (1, .ofNat 0)))], [], zyh717, 0, 0), [(1, .negSucc 1)], .ofNat 144), (zyx643r, zyh702), 172, 20580),
  ((13, ([(0, .inr (.inr (.inl 94))), (1, .inl ((.ofNat 8, .ofNat 8), some (1, .ofNat 0)))], [], zyh718, 0, 0), [(1, .negSucc 1)], .ofNat 144), (zyx643r, zyh702), 172, 20580),
  ((13, ([(0, .inr (.inr (.inl 94))), (1, .inl ((.ofNat 8, .ofNat 8), some (1, .ofNat 0)))], [], zyh719, 0, 0), [(1, .negSucc 1)], .ofNat 144), (zyx643r, zyh702), 172, 20580),
  ((13, ([(0, .inr (.inr (.inl 94))), (1, .inl ((.ofNat 9, .ofNat 9), some (1, .ofNat 0)))], [], zyh720, 0, 0), [(1, .negSucc 1)], .ofNat 144), (zyx643r, zyh702), 172, 20580),
  ((13, ([(0, .inr (.inr (.inl 94))), (1, .inl ((.ofNat 9, .ofNat 9), some (1, .ofNat 0)))], [], zyh721, 0, 0), [(1, .negSucc 1)], .ofNat 144), (zyx643r, zyh702), 172, 20580),
  ((13, ([(0, .inr (.inr (.inl 94))), (1, .inl ((.ofNat 10, .ofNat 10), some (1, .ofNat 0)))], [], zyh722, 0, 0), [(1, .negSucc 1)], .ofNat 144), (zyx643r, zyh702), 172, 20580),
  ((13, ([(0, .inr (.inr (.inl 94))), (1, .inl ((.ofNat 10, .ofNat 10), some (1, .ofNat 0)))], [], zyh723, 0, 0), [(1, .negSucc 1)], .ofNat 144), (zyx643r, zyh702), 172, 20580),
  ((13, ([(0, .inr (.inr (.inl 94))), (1, .inl ((.ofNat 11, .ofNat 11), some (1, .ofNat 0)))], [], zyh724, 0, 0), [(1, .negSucc 1)], .ofNat 144), (zyx643r, zyh702), 172, 20580),
  ((13, ([(0, .inr (.inr (.inl 94))), (1, .inl ((.ofNat 11, .ofNat 11), some (1, .ofNat 0)))], [], zyh725, 0, 0), [(1, .negSucc 1)], .ofNat 144), (zyx643r, zyh702), 172, 20580),
  ((13, ([(0, .inr (.inr (.inl 94))), (1, .inl ((.ofNat 12, .ofNat 12), some (1, .ofNat 0)))], [], zyh726, 0, 0), [(1, .negSucc 1)], .ofNat 144), (zyx643r, zyh702), 172, 20580),
  ((13, ([(0, .inr (.inr (.inl 94))), (1, .inl ((.ofNat 12, .ofNat 12), some (1, .ofNat 0)))], [], zyh727, 0, 0), [(1, .negSucc 1)], .ofNat 144), (zyx643r, zyh702), 172, 20580),
  ((13, ([(0, .inr (.inr (.inl 94))), (1, .inl ((.ofNat 13, .ofNat 13), some (1, .ofNat 0)))], [], zyh728, 0, 0), [(1, .negSucc 1)], .ofNat 144), (zyx643r, zyh702), 172, 20580),
  ((13, ([(0, .inr (.inr (.inl 94))), (1, .inl ((.ofNat 13, .ofNat 13), some (1, .ofNat 0)))], [], zyh729, 0, 0), [(1, .negSucc 1)], .ofNat 144), (zyx643r, zyh702), 172, 20580),
  ((13, ([(0, .inr (.inr (.inl 94))), (1, .inl ((.ofNat 14, .ofNat 14), some (1, .ofNat 0)))], [], zyh730, 0, 0), [(1, .negSucc 1)], .ofNat 144), (zyx643r, zyh702), 172, 20580),
  ((13, ([(0, .inr (.inr (.inl 94))), (1, .inl ((.ofNat 14, .ofNat 14), some (1, .ofNat 0)))], [], zyh731, 0, 0), [(1, .negSucc 1)], .ofNat 144), (zyx643r, zyh702), 172, 20580),
  ((13, ([(0, .inr (.inr (.inl 94))), (1, .inl ((.ofNat 15, .ofNat 15), some (1, .ofNat 0)))], [], zyh732, 0, 0), [(1, .negSucc 1)], .ofNat 144), (zyx643r, zyh702), 172, 20580),
  ((13, ([(0, .inr (.inr (.inl 94))), (1, .inl ((.ofNat 15, .ofNat 15), some (1, .ofNat 0)))], [], zyh733, 0, 0), [(1, .negSucc 1)], .ofNat 144), (zyx643r, zyh702), 172, 20580),
  ((13, ([(0, .inr (.inr (.inl 94))), (1, .inl ((.ofNat 16, .ofNat 16), some (1, .ofNat 0)))], [], zyh734, 0, 0), [(1, .negSucc 1)], .ofNat 144), (zyx643r, zyh702), 172, 20580),
  ((13, ([(0, .inr (.inr (.inl 94))), (1, .inl ((.ofNat 16, .ofNat 16), some (1, .ofNat 0)))], [], zyh735, 0, 0), [(1, .negSucc 1)], .ofNat 144), (zyx643r, zyh702), 172, 20580),
  ((13, ([(0, .inr (.inr (.inl 94))), (1, .inl ((.ofNat 17, .ofNat 17), some (1, .ofNat 0)))], [], zyh736, 0, 0), [(1, .negSucc 1)], .ofNat 144), (zyx643r, zyh702), 172, 20580),
  ((13, ([(0, .inr (.inr (.inl 94))), (1, .inl ((.ofNat 17, .ofNat 17), some (1, .ofNat 0)))], [], zyh737, 0, 0), [(1, .negSucc 1)], .ofNat 144), (zyx643r, zyh702), 172, 20580),
  ((13, ([(0, .inr (.inr (.inl 94))), (1, .inl ((.ofNat 18, .ofNat 18), some (1, .ofNat 0)))], [], zyh738, 0, 0), [(1, .negSucc 1)], .ofNat 144), (zyx643r, zyh702), 172, 20580),
  ((13, ([(0, .inr (.inr (.inl 94))), (1, .inl ((.ofNat 18, .ofNat 18), some (1, .ofNat 0)))], [], zyh739, 0, 0), [(1, .negSucc 1)], .ofNat 144), (zyx643r, zyh702), 172, 20580),
  ((13, ([(0, .inr (.inr (.inl 94))), (1, .inl ((.ofNat 19, .ofNat 19), some (1, .ofNat 0)))], [], zyh740, 0, 0), [(1, .negSucc 1)], .ofNat 144), (zyx643r, zyh702), 172, 20580),
  ((13, ([(0, .inr (.inr (.inl 94))), (1, .inl ((.ofNat 19, .ofNat 19), some (1, .ofNat 0)))], [], zyh741, 0, 0), [(1, .negSucc 1)], .ofNat 144), (zyx643r, zyh702), 172, 20580),
  ((13, ([(0, .inr (.inr (.inl 94))), (1, .inl ((.ofNat 20, .ofNat 20), some (1, .ofNat 0)))], [], zyh742, 0, 0), [(1, .negSucc 1)], .ofNat 144), (zyx643r, zyh702), 172, 20580),
  ((13, ([(0, .inr (.inr (.inl 94))), (1, .inl ((.ofNat 20, .ofNat 20), some (1, .ofNat 0)))], [], zyh743, 0, 0), [(1, .negSucc 1)], .ofNat 144), (zyx643r, zyh702), 172, 20580),
  ((13, ([(0, .inr (.inr (.inl 94))), (1, .inl ((.ofNat 21, .ofNat 21), some (1, .ofNat 0)))], [], zyh744, 0, 0), [(1, .negSucc 1)], .ofNat 144), (zyx643r, zyh702), 172, 20580),
  ((13, ([(0, .inr (.inr (.inl 94))), (1, .inl ((.ofNat 21, .ofNat 21), some (1, .ofNat 0)))], [], zyh745, 0, 0), [(1, .negSucc 1)], .ofNat 144), (zyx643r, zyh702), 172, 20580),
  ((13, ([(0, .inr (.inr (.inl 94))), (1, .inl ((.ofNat 22, .ofNat 22), some (1, .ofNat 0)))], [], zyh746, 0, 0), [(1, .negSucc 1)], .ofNat 144), (zyx643r, zyh702), 172, 20580),
  ((13, ([(0, .inr (.inr (.inl 94))), (1, .inl ((.ofNat 22, .ofNat 22), some (1, .ofNat 0)))], [], zyh747, 0, 0), [(1, .negSucc 1)], .ofNat 144), (zyx643r, zyh702), 172, 20580),
  ((13, ([(0, .inr (.inr (.inl 94))), (1, .inl ((.ofNat 23, .ofNat 23), some (1, .ofNat 0)))], [], zyh748, 0, 0), [(1, .negSucc 1)], .ofNat 144), (zyx643r, zyh702), 172, 20580),
  ((13, ([(0, .inr (.inr (.inl 94))), (1, .inl ((.ofNat 23, .ofNat 23), some (1, .ofNat 0)))], [], zyh749, 0, 0), [(1, .negSucc 1)], .ofNat 144), (zyx643r, zyh702), 172, 20580),
  ((13, ([(0, .inr (.inr (.inl 94))), (1, .inl ((.ofNat 24, .ofNat 24), some (1, .ofNat 0)))], [], zyh750, 0, 0), [(1, .negSucc 1)], .ofNat 144), (zyx643r, zyh702), 172, 20580),
  ((13, ([(0, .inr (.inr (.inl 94))), (1, .inl ((.ofNat 24, .ofNat 24), some (1, .ofNat 0)))], [], zyh751, 0, 0), [(1, .negSucc 1)], .ofNat 144), (zyx643r, zyh702), 172, 20580),
  ((13, ([(0, .inr (.inr (.inl 94))), (1, .inl ((.ofNat 25, .ofNat 25), some (1, .ofNat 0)))], [], zyh752, 0, 0), [(1, .negSucc 1)], .ofNat 144), (zyx643r, zyh702), 172, 20580),
  ((13, ([(0, .inr (.inr (.inl 94))), (1, .inl ((.ofNat 25, .ofNat 25), some (1, .ofNat 0)))], [], zyh753, 0, 0), [(1, .negSucc 1)], .ofNat 144), (zyx643r, zyh702), 172, 20580),
  ((13, ([(0, .inr (.inr (.inl 94))), (1, .inl ((.ofNat 26, .ofNat 26), some (1, .ofNat 0)))], [], zyh754, 0, 0), [(1, .negSucc 1)], .ofNat 144), (zyx643r, zyh702), 172, 20580),
  ((13, ([(0, .inr (.inr (.inl 94))), (1, .inl ((.ofNat 26, .ofNat 26), some (1, .ofNat 0)))], [], zyh755, 0, 0), [(1, .negSucc 1)], .ofNat 144), (zyx643r, zyh702), 172, 20580),
  ((13, ([(0, .inr (.inr (.inl 94))), (1, .inl ((.ofNat 27, .ofNat 27), some (1, .ofNat 0)))], [], zyh756, 0, 0), [(1, .negSucc 1)], .ofNat 144), (zyx643r, zyh702), 172, 20580),
  ((13, ([(0, .inr (.inr (.inl 94))), (1, .inl ((.ofNat 27, .ofNat 27), some (1, .ofNat 0)))], [], zyh757, 0, 0), [(1, .negSucc 1)], .ofNat 144), (zyx643r, zyh702), 172, 20580),
  ((13, ([(0, .inr (.inr (.inl 94))), (1, .inl ((.ofNat 28, .ofNat 28), some (1, .ofNat 0)))], [], zyh758, 0, 0), [(1, .negSucc 1)], .ofNat 144), (zyx643r, zyh702), 172, 20580),
  ((13, ([(0, .inr (.inr (.inl 94))), (1, .inl ((.ofNat 28, .ofNat 28), some (1, .ofNat 0)))], [], zyh759, 0, 0), [(1, .negSucc 1)], .ofNat 144), (zyx643r, zyh702), 172, 20580),
  ((13, ([(0, .inr (.inr (.inl 94))), (1, .inl ((.ofNat 29, .ofNat 29), some (1, .ofNat 0)))], [], zyh760, 0, 0), [(1, .negSucc 1)], .ofNat 144), (zyx643r, zyh702), 172, 20580),
  ((13, ([(0, .inr (.inr (.inl 94))), (1, .inl ((.ofNat 29, .ofNat 29), some (1, .ofNat 0)))], [], zyh761, 0, 0), [(1, .negSucc 1)], .ofNat 144), (zyx643r, zyh702), 172, 20580),
  ((13, ([(0, .inr (.inr (.inl 94))), (1, .inl ((.ofNat 30, .ofNat 30), some (1, .ofNat 0)))], [], zyh762, 0, 0), [(1, .negSucc 1)], .ofNat 144), (zyx643r, zyh702), 172, 20580),
  ((13, ([(0, .inr (.inr (.inl 94))), (1, .inl ((.ofNat 30, .ofNat 30), some (1, .ofNat 0)))], [], zyh763, 0, 0), [(1, .negSucc 1)], .ofNat 144), (zyx643r, zyh702), 172, 20580),
  ((13, ([(0, .inr (.inr (.inl 94))), (1, .inl ((.ofNat 31, .ofNat 31), some (1, .ofNat 0)))], [], zyh764, 0, 0), [(1, .negSucc 1)], .ofNat 144), (zyx643r, zyh702), 172, 20580),
  ((72, ([(0, .inr (.inr (.inl 94))), (1, .inl ((.ofNat 0, .ofNat 39), some (1, .ofNat 0))), (2, .inl ((.ofNat 0, .ofNat 39), some (2, .ofNat 0)))], [], zyh702, 0, 0), [(2, .negSucc 1)], .ofNat 79), (zyx643r, zyh702), 172, 20580)]
noncomputable def zyx643d : zKw := (299, 3, 172, 20580, zyx643a, zyh2, [(zyx643r, zyh702)])
noncomputable def zbzyx643c : Bool := zchkX [(94, 16)] zprog2 (zovW [zyx629d, zyx642d, zyx628d, zyx622d]) 100000 kX8_year [] zyx643p zyx643p
noncomputable def zbzyx643e : Bool := zrunw zprog2 (zovW [zyx629d, zyx642d, zyx628d, zyx622d]) 100000 (zcutW [(94, 16)] none ((zyx643r, zyh702), 172, 20580) zyx643p) 172 20580 kX8_year (zkin zyx643r zyh702) 0 (zargs 0 zyx643a, [], (zyh2.1, zyh2.2.1, 0), 0, 0)
noncomputable def zyg29 : List Bool := [zbzyx628c, zbzyx628e, zbzyx629e, zbzyx630e, zbzyx631e, zbzyx632e, zbzyx633e, zbzyx634e, zbzyx635e, zbzyx636e, zbzyx637e, zbzyx638e, zbzyx639e, zbzyx640e, zbzyx641e, zbzyx642e, zbzyx643c, zbzyx643e]
set_option maxRecDepth 100000 in
theorem zyg29_ok : zall (fun b => b) zyg29 = true := by decide +kernel
theorem zyx628c : zchkX [] zprog2 (zovW []) 100000 kX8_goExchange [] zyx628p zyx628p = true := zall_ok zyg29_ok (k := 0) (a := zbzyx628c) rfl
theorem zyx628e : zrunw zprog2 (zovW []) 100000 (zcutW [] none ((zyx628r, zyh673), 2, 300) zyx628p) 2 300 kX8_goExchange (zkin zyx628r zyh673) 0 (zargs 0 zyx628a, [], (zyh672.1, zyh672.2.1, 0), 0, 0) = true := zall_ok zyg29_ok (k := 1) (a := zbzyx628e) rfl
theorem zyx628 {l : Launch} {D : va_G} {tys : List (ClassId × FieldType)} {o : zO} {z : Nat} (E : zEnv tys) : zKnW l D vwCl tys o z (zXX o z) zTs zprog2 zyx628d :=
  zkn_mk E (fun g => fun _ h => absurd h List.not_mem_nil) (show zget zprog2 219 = some mX8_goExchange from rfl) rfl (by decide) (by decide) (by decide) (by decide) (G := zyx628p) (zkn_pt E (fun g => fun _ h => absurd h List.not_mem_nil) (show zget zprog2 219 = some mX8_goExchange from rfl) (fun _ h => absurd h List.not_mem_nil) zyx628c) zyx628e
theorem zyx629e : zrunw zprog2 (zovW []) 100000 (zcutW [] none ((zyx629r, zyh675), 2, 300) zyx629p) 2 300 kX8_lay (zkin zyx629r zyh675) 0 (zargs 0 zyx629a, [], (zyh674.1, zyh674.2.1, 0), 0, 0) = true := zall_ok zyg29_ok (k := 2) (a := zbzyx629e) rfl
theorem zyx629 {l : Launch} {D : va_G} {tys : List (ClassId × FieldType)} {o : zO} {z : Nat} (E : zEnv tys) : zKnW l D vwCl tys o z (zXX o z) zTs zprog2 zyx629d :=
  zkn_mk E (fun g => fun _ h => absurd h List.not_mem_nil) (show zget zprog2 246 = some mX8_lay from rfl) rfl (by decide) (by decide) (by decide) (by decide) (G := zyx629p) (fun _ h => absurd h List.not_mem_nil) zyx629e
theorem zyx630e : zrunw zprog2 (zovW []) 100000 (zcutW [] none ((zyx630r, zyh677), 2, 300) zyx630p) 2 300 kX8_lay (zkin zyx630r zyh677) 0 (zargs 0 zyx630a, [], (zyh676.1, zyh676.2.1, 0), 0, 0) = true := zall_ok zyg29_ok (k := 3) (a := zbzyx630e) rfl
theorem zyx630 {l : Launch} {D : va_G} {tys : List (ClassId × FieldType)} {o : zO} {z : Nat} (E : zEnv tys) : zKnW l D vwCl tys o z (zXX o z) zTs zprog2 zyx630d :=
  zkn_mk E (fun g => fun _ h => absurd h List.not_mem_nil) (show zget zprog2 246 = some mX8_lay from rfl) rfl (by decide) (by decide) (by decide) (by decide) (G := zyx630p) (fun _ h => absurd h List.not_mem_nil) zyx630e
theorem zyx631e : zrunw zprog2 (zovW []) 100000 (zcutW [] none ((zyx631r, zyh679), 2, 300) zyx631p) 2 300 kX8_lay (zkin zyx631r zyh679) 0 (zargs 0 zyx631a, [], (zyh678.1, zyh678.2.1, 0), 0, 0) = true := zall_ok zyg29_ok (k := 4) (a := zbzyx631e) rfl
theorem zyx631 {l : Launch} {D : va_G} {tys : List (ClassId × FieldType)} {o : zO} {z : Nat} (E : zEnv tys) : zKnW l D vwCl tys o z (zXX o z) zTs zprog2 zyx631d :=
  zkn_mk E (fun g => fun _ h => absurd h List.not_mem_nil) (show zget zprog2 246 = some mX8_lay from rfl) rfl (by decide) (by decide) (by decide) (by decide) (G := zyx631p) (fun _ h => absurd h List.not_mem_nil) zyx631e
theorem zyx632e : zrunw zprog2 (zovW []) 100000 (zcutW [] none ((zyx632r, zyh681), 2, 300) zyx632p) 2 300 kX8_lay (zkin zyx632r zyh681) 0 (zargs 0 zyx632a, [], (zyh680.1, zyh680.2.1, 0), 0, 0) = true := zall_ok zyg29_ok (k := 5) (a := zbzyx632e) rfl
theorem zyx632 {l : Launch} {D : va_G} {tys : List (ClassId × FieldType)} {o : zO} {z : Nat} (E : zEnv tys) : zKnW l D vwCl tys o z (zXX o z) zTs zprog2 zyx632d :=
  zkn_mk E (fun g => fun _ h => absurd h List.not_mem_nil) (show zget zprog2 246 = some mX8_lay from rfl) rfl (by decide) (by decide) (by decide) (by decide) (G := zyx632p) (fun _ h => absurd h List.not_mem_nil) zyx632e
theorem zyx633e : zrunw zprog2 (zovW []) 100000 (zcutW [] none ((zyx633r, zyh683), 2, 300) zyx633p) 2 300 kX8_lay (zkin zyx633r zyh683) 0 (zargs 0 zyx633a, [], (zyh682.1, zyh682.2.1, 0), 0, 0) = true := zall_ok zyg29_ok (k := 6) (a := zbzyx633e) rfl
theorem zyx633 {l : Launch} {D : va_G} {tys : List (ClassId × FieldType)} {o : zO} {z : Nat} (E : zEnv tys) : zKnW l D vwCl tys o z (zXX o z) zTs zprog2 zyx633d :=
  zkn_mk E (fun g => fun _ h => absurd h List.not_mem_nil) (show zget zprog2 246 = some mX8_lay from rfl) rfl (by decide) (by decide) (by decide) (by decide) (G := zyx633p) (fun _ h => absurd h List.not_mem_nil) zyx633e
theorem zyx634e : zrunw zprog2 (zovW []) 100000 (zcutW [] none ((zyx634r, zyh685), 2, 300) zyx634p) 2 300 kX8_lay (zkin zyx634r zyh685) 0 (zargs 0 zyx634a, [], (zyh684.1, zyh684.2.1, 0), 0, 0) = true := zall_ok zyg29_ok (k := 7) (a := zbzyx634e) rfl
theorem zyx634 {l : Launch} {D : va_G} {tys : List (ClassId × FieldType)} {o : zO} {z : Nat} (E : zEnv tys) : zKnW l D vwCl tys o z (zXX o z) zTs zprog2 zyx634d :=
  zkn_mk E (fun g => fun _ h => absurd h List.not_mem_nil) (show zget zprog2 246 = some mX8_lay from rfl) rfl (by decide) (by decide) (by decide) (by decide) (G := zyx634p) (fun _ h => absurd h List.not_mem_nil) zyx634e
theorem zyx635e : zrunw zprog2 (zovW []) 100000 (zcutW [] none ((zyx635r, zyh687), 2, 300) zyx635p) 2 300 kX8_lay (zkin zyx635r zyh687) 0 (zargs 0 zyx635a, [], (zyh686.1, zyh686.2.1, 0), 0, 0) = true := zall_ok zyg29_ok (k := 8) (a := zbzyx635e) rfl
theorem zyx635 {l : Launch} {D : va_G} {tys : List (ClassId × FieldType)} {o : zO} {z : Nat} (E : zEnv tys) : zKnW l D vwCl tys o z (zXX o z) zTs zprog2 zyx635d :=
  zkn_mk E (fun g => fun _ h => absurd h List.not_mem_nil) (show zget zprog2 246 = some mX8_lay from rfl) rfl (by decide) (by decide) (by decide) (by decide) (G := zyx635p) (fun _ h => absurd h List.not_mem_nil) zyx635e
theorem zyx636e : zrunw zprog2 (zovW []) 100000 (zcutW [] none ((zyx636r, zyh689), 2, 300) zyx636p) 2 300 kX8_lay (zkin zyx636r zyh689) 0 (zargs 0 zyx636a, [], (zyh688.1, zyh688.2.1, 0), 0, 0) = true := zall_ok zyg29_ok (k := 9) (a := zbzyx636e) rfl
theorem zyx636 {l : Launch} {D : va_G} {tys : List (ClassId × FieldType)} {o : zO} {z : Nat} (E : zEnv tys) : zKnW l D vwCl tys o z (zXX o z) zTs zprog2 zyx636d :=
  zkn_mk E (fun g => fun _ h => absurd h List.not_mem_nil) (show zget zprog2 246 = some mX8_lay from rfl) rfl (by decide) (by decide) (by decide) (by decide) (G := zyx636p) (fun _ h => absurd h List.not_mem_nil) zyx636e
theorem zyx637e : zrunw zprog2 (zovW []) 100000 (zcutW [] none ((zyx637r, zyh691), 2, 300) zyx637p) 2 300 kX8_lay (zkin zyx637r zyh691) 0 (zargs 0 zyx637a, [], (zyh690.1, zyh690.2.1, 0), 0, 0) = true := zall_ok zyg29_ok (k := 10) (a := zbzyx637e) rfl
theorem zyx637 {l : Launch} {D : va_G} {tys : List (ClassId × FieldType)} {o : zO} {z : Nat} (E : zEnv tys) : zKnW l D vwCl tys o z (zXX o z) zTs zprog2 zyx637d :=
  zkn_mk E (fun g => fun _ h => absurd h List.not_mem_nil) (show zget zprog2 246 = some mX8_lay from rfl) rfl (by decide) (by decide) (by decide) (by decide) (G := zyx637p) (fun _ h => absurd h List.not_mem_nil) zyx637e
theorem zyx638e : zrunw zprog2 (zovW []) 100000 (zcutW [] none ((zyx638r, zyh693), 2, 300) zyx638p) 2 300 kX8_lay (zkin zyx638r zyh693) 0 (zargs 0 zyx638a, [], (zyh692.1, zyh692.2.1, 0), 0, 0) = true := zall_ok zyg29_ok (k := 11) (a := zbzyx638e) rfl
theorem zyx638 {l : Launch} {D : va_G} {tys : List (ClassId × FieldType)} {o : zO} {z : Nat} (E : zEnv tys) : zKnW l D vwCl tys o z (zXX o z) zTs zprog2 zyx638d :=
  zkn_mk E (fun g => fun _ h => absurd h List.not_mem_nil) (show zget zprog2 246 = some mX8_lay from rfl) rfl (by decide) (by decide) (by decide) (by decide) (G := zyx638p) (fun _ h => absurd h List.not_mem_nil) zyx638e
theorem zyx639e : zrunw zprog2 (zovW []) 100000 (zcutW [] none ((zyx639r, zyh695), 2, 300) zyx639p) 2 300 kX8_lay (zkin zyx639r zyh695) 0 (zargs 0 zyx639a, [], (zyh694.1, zyh694.2.1, 0), 0, 0) = true := zall_ok zyg29_ok (k := 12) (a := zbzyx639e) rfl
theorem zyx639 {l : Launch} {D : va_G} {tys : List (ClassId × FieldType)} {o : zO} {z : Nat} (E : zEnv tys) : zKnW l D vwCl tys o z (zXX o z) zTs zprog2 zyx639d :=
  zkn_mk E (fun g => fun _ h => absurd h List.not_mem_nil) (show zget zprog2 246 = some mX8_lay from rfl) rfl (by decide) (by decide) (by decide) (by decide) (G := zyx639p) (fun _ h => absurd h List.not_mem_nil) zyx639e
theorem zyx640e : zrunw zprog2 (zovW []) 100000 (zcutW [] none ((zyx640r, zyh697), 2, 300) zyx640p) 2 300 kX8_lay (zkin zyx640r zyh697) 0 (zargs 0 zyx640a, [], (zyh696.1, zyh696.2.1, 0), 0, 0) = true := zall_ok zyg29_ok (k := 13) (a := zbzyx640e) rfl
theorem zyx640 {l : Launch} {D : va_G} {tys : List (ClassId × FieldType)} {o : zO} {z : Nat} (E : zEnv tys) : zKnW l D vwCl tys o z (zXX o z) zTs zprog2 zyx640d :=
  zkn_mk E (fun g => fun _ h => absurd h List.not_mem_nil) (show zget zprog2 246 = some mX8_lay from rfl) rfl (by decide) (by decide) (by decide) (by decide) (G := zyx640p) (fun _ h => absurd h List.not_mem_nil) zyx640e
theorem zyx641e : zrunw zprog2 (zovW []) 100000 (zcutW [] none ((zyx641r, zyh699), 2, 300) zyx641p) 2 300 kX8_lay (zkin zyx641r zyh699) 0 (zargs 0 zyx641a, [], (zyh698.1, zyh698.2.1, 0), 0, 0) = true := zall_ok zyg29_ok (k := 14) (a := zbzyx641e) rfl
theorem zyx641 {l : Launch} {D : va_G} {tys : List (ClassId × FieldType)} {o : zO} {z : Nat} (E : zEnv tys) : zKnW l D vwCl tys o z (zXX o z) zTs zprog2 zyx641d :=
  zkn_mk E (fun g => fun _ h => absurd h List.not_mem_nil) (show zget zprog2 246 = some mX8_lay from rfl) rfl (by decide) (by decide) (by decide) (by decide) (G := zyx641p) (fun _ h => absurd h List.not_mem_nil) zyx641e
theorem zyx642e : zrunw zprog2 (zovW [zyx630d, zyx631d, zyx632d, zyx633d, zyx634d, zyx635d, zyx636d, zyx637d, zyx638d, zyx639d, zyx640d, zyx641d]) 100000 (zcutW [] none ((zyx642r, zyh701), 3, 420) zyx642p) 3 420 k2X8_remember (zkin zyx642r zyh701) 0 (zargs 0 zyx642a, [], (zyh700.1, zyh700.2.1, 0), 0, 0) = true := zall_ok zyg29_ok (k := 15) (a := zbzyx642e) rfl
theorem zyx642 {l : Launch} {D : va_G} {tys : List (ClassId × FieldType)} {o : zO} {z : Nat} (E : zEnv tys) : zKnW l D vwCl tys o z (zXX o z) zTs zprog2 zyx642d :=
  zkn_mk E (fun g => List.forall_mem_cons.mpr ⟨zyx630 (o := zwith o g) E, List.forall_mem_cons.mpr ⟨zyx631 (o := zwith o g) E, List.forall_mem_cons.mpr ⟨zyx632 (o := zwith o g) E, List.forall_mem_cons.mpr ⟨zyx633 (o := zwith o g) E, List.forall_mem_cons.mpr ⟨zyx634 (o := zwith o g) E, List.forall_mem_cons.mpr ⟨zyx635 (o := zwith o g) E, List.forall_mem_cons.mpr ⟨zyx636 (o := zwith o g) E, List.forall_mem_cons.mpr ⟨zyx637 (o := zwith o g) E, List.forall_mem_cons.mpr ⟨zyx638 (o := zwith o g) E, List.forall_mem_cons.mpr ⟨zyx639 (o := zwith o g) E, List.forall_mem_cons.mpr ⟨zyx640 (o := zwith o g) E, List.forall_mem_cons.mpr ⟨zyx641 (o := zwith o g) E, fun _ h => absurd h List.not_mem_nil⟩⟩⟩⟩⟩⟩⟩⟩⟩⟩⟩⟩) (show zget zprog2 269 = some m2X8_remember from rfl) rfl (by decide) (by decide) (by decide) (by decide) (G := zyx642p) (fun _ h => absurd h List.not_mem_nil) zyx642e
theorem zyx643c : zchkX [(94, 16)] zprog2 (zovW [zyx629d, zyx642d, zyx628d, zyx622d]) 100000 kX8_year [] zyx643p zyx643p = true := zall_ok zyg29_ok (k := 16) (a := zbzyx643c) rfl
theorem zyx643e : zrunw zprog2 (zovW [zyx629d, zyx642d, zyx628d, zyx622d]) 100000 (zcutW [(94, 16)] none ((zyx643r, zyh702), 172, 20580) zyx643p) 172 20580 kX8_year (zkin zyx643r zyh702) 0 (zargs 0 zyx643a, [], (zyh2.1, zyh2.2.1, 0), 0, 0) = true := zall_ok zyg29_ok (k := 17) (a := zbzyx643e) rfl
theorem zyx643 {l : Launch} {D : va_G} {tys : List (ClassId × FieldType)} {o : zO} {z : Nat} (E : zEnv tys) : zKnW l D vwCl tys o z (zXX o z) zTs zprog2 zyx643d :=
  zkn_mk E (fun g => List.forall_mem_cons.mpr ⟨zyx629 (o := zwith o g) E, List.forall_mem_cons.mpr ⟨zyx642 (o := zwith o g) E, List.forall_mem_cons.mpr ⟨zyx628 (o := zwith o g) E, List.forall_mem_cons.mpr ⟨zyx622 (o := zwith o g) E, fun _ h => absurd h List.not_mem_nil⟩⟩⟩⟩) (show zget zprog2 299 = some mX8_year from rfl) rfl (by decide) (by decide) (by decide) (by decide) (G := zyx643p) (zkn_pt E (fun g => List.forall_mem_cons.mpr ⟨zyx629 (o := zwith o g) E, List.forall_mem_cons.mpr ⟨zyx642 (o := zwith o g) E, List.forall_mem_cons.mpr ⟨zyx628 (o := zwith o g) E, List.forall_mem_cons.mpr ⟨zyx622 (o := zwith o g) E, fun _ h => absurd h List.not_mem_nil⟩⟩⟩⟩) (show zget zprog2 299 = some mX8_year from rfl) (fun _ h => absurd h List.not_mem_nil) zyx643c) zyx643e

